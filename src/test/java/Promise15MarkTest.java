/** Promise 15: mark. */
public final class Promise15MarkTest {
    private static final Check CHECK = new Check("Promise 15");

    public static void main(String[] args) {
        numbersFromZero();
        firstOneThatStands();
        minusOneWhenTwelveStand();
        refusedMarkChangesNothing();
        roomAgainBehindBack();
        eachThingIsMarked();
        wrongIsMarked();
        markingChangesNothing();
        CHECK.end();
    }

    private static LoopRegions marked(LoopRegions x, int times) {
        for (int m = 0; m < times; m++) {
            CHECK.due("mark()", x.mark(), m);
        }
        return x;
    }

    private static void numbersFromZero() {
        CHECK.sentence("the mark's number");
        marked(Tell.grid(3, 3), 12);
    }

    private static void firstOneThatStands() {
        CHECK.sentence("0 for the first one that stands");
        LoopRegions x = marked(Tell.grid(3, 3), 3);
        x.back(0);
        CHECK.due("mark() when none stands any more", x.mark(), 0);
        CHECK.due("mark()", x.mark(), 1);
        x.back(1);
        CHECK.due("mark() when one stands", x.mark(), 1);
    }

    private static void minusOneWhenTwelveStand() {
        CHECK.sentence("-1 when 12 stand");
        LoopRegions x = marked(Tell.grid(3, 3), 12);
        CHECK.due("mark() when 12 stand", x.mark(), -1);
        CHECK.due("mark() when 12 stand, again", x.mark(), -1);
    }

    private static void refusedMarkChangesNothing() {
        CHECK.sentence("-1 when 12 stand");
        LoopRegions x = marked(Tell.grid(3, 3), 11);
        Tell.on(x, 0);
        CHECK.due("mark()", x.mark(), 11);
        Tell.on(x, 2);
        CHECK.due("mark() when 12 stand", x.mark(), -1);
        CHECK.due("back(12)", x.back(12), false);
        CHECK.due("back(-1)", x.back(-1), false);
        CHECK.due("is(2)", x.is(2), 1);
        CHECK.due("back(11)", x.back(11), true);
        CHECK.due("is(0)", x.is(0), 1);
        CHECK.due("is(2)", x.is(2), 0);
    }

    private static void roomAgainBehindBack() {
        CHECK.sentence("-1 when 12 stand");
        LoopRegions x = marked(Tell.grid(3, 3), 12);
        x.mark();
        CHECK.due("back(11)", x.back(11), true);
        CHECK.due("mark() when 11 stand", x.mark(), 11);
        CHECK.due("mark() when 12 stand", x.mark(), -1);
        CHECK.due("back(3)", x.back(3), true);
        for (int m = 3; m < 12; m++) {
            CHECK.due("mark()", x.mark(), m);
        }
        CHECK.due("mark() when 12 stand", x.mark(), -1);
    }

    private static void eachThingIsMarked() {
        CHECK.sentence("All that is (edges, duties, shades, TOLD, steps, ..) is marked");
        LoopRegions x = Tell.grid(3, 3);
        Tell.told(Tell.white(Tell.black(Tell.barred(Tell.must(Tell.off(Tell.on(x, 0), 3), 6), 4), 0), 8), 3);
        x.run();
        String before = Tell.all(x);
        CHECK.due("mark()", x.mark(), 0);
        x.duty(6, 0);
        x.duty(4, 1);
        x.duty(8, 2);
        x.shade(1, true);
        x.shade(2, false);
        x.told(9);
        x.run();
        CHECK.due("something is another now", Tell.all(x).equals(before), false);
        CHECK.due("back(0)", x.back(0), true);
        CHECK.due("all", Tell.all(x), before);
        Tell.black(x, 1, 3);
        x.run();
        CHECK.due("the step by the TOLD that was marked", x.step(x.steps() - 1, 0), 10);
        CHECK.due("what it made of cell 5", x.cell(5, 0), 2);
    }

    private static void wrongIsMarked() {
        CHECK.sentence("whether something is WRONG .. is marked");
        LoopRegions x = Tell.wrong();
        x.mark();
        x.duty(0, 0);
        CHECK.due("wrong() behind duty(0, 0)", x.wrong(), false);
        x.back(0);
        CHECK.due("wrong() behind back(0)", x.wrong(), true);
        CHECK.due("run() behind back(0)", x.run(), 0);
        LoopRegions y = Tell.must(Tell.off(Tell.grid(3, 3), 0), 0);
        y.mark();
        y.run();
        y.back(0);
        CHECK.due("wrong() behind back(0) to before it was", y.wrong(), false);
    }

    private static void markingChangesNothing() {
        CHECK.sentence("All that is .. is marked");
        LoopRegions x = Tell.ran(Tell.barred(Tell.must(Tell.grid(3, 3), 0), 4));
        String before = Tell.all(x);
        x.mark();
        CHECK.due("all", Tell.all(x), before);
        CHECK.due("run()", x.run(), 0);
    }
}
