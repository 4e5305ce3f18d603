/** Promise 16: back. */
public final class Promise16BackTest {
    private static final Check CHECK = new Check("Promise 16");

    public static void main(String[] args) {
        allIsAsItWas();
        openAgain();
        toldAgain();
        oneOfSeveral();
        thatOneAndLaterOnesStandNoMore();
        earlierOnesStand();
        falseWhenItDoesNotStand();
        falseChangesNothing();
        sameStepsAgain();
        CHECK.end();
    }

    private static void allIsAsItWas() {
        CHECK.sentence("All is as it was when a mark was made");
        LoopRegions x = Tell.ran(Tell.black(Tell.told(Tell.barred(Tell.grid(3, 3), 4), 3), 0));
        String before = Tell.all(x);
        x.mark();
        x.duty(0, 1);
        x.duty(4, 0);
        x.told(1);
        x.run();
        x.mark();
        x.duty(4, 1);
        x.run();
        CHECK.due("wrong()", x.wrong(), true);
        CHECK.due("back(0)", x.back(0), true);
        CHECK.due("all", Tell.all(x), before);
        CHECK.due("run()", x.run(), 0);
    }

    private static void openAgain() {
        CHECK.sentence("All is as it was when a mark was made");
        LoopRegions x = Tell.grid(3, 3);
        String before = Tell.all(x);
        x.mark();
        Tell.white(Tell.black(Tell.barred(Tell.must(Tell.on(Tell.off(x, 0, 1), 2, 3), 0), 8), 0), 8);
        CHECK.due("back(0)", x.back(0), true);
        CHECK.due("all", Tell.all(x), before);
    }

    private static void toldAgain() {
        CHECK.sentence("All is as it was when a mark was made");
        LoopRegions x = Tell.grid(2, 2);
        x.mark();
        x.told(4);
        x.mark();
        x.told(0);
        x.back(1);
        CHECK.due("run() when 4 are told again", x.run(), 1);
        CHECK.due("cell(3, 0)", x.cell(3, 0), 1);
        x.back(0);
        CHECK.due("cell(3, 0) behind back(0)", x.cell(3, 0), 0);
        CHECK.due("run() when nothing is told again", x.run(), 0);
    }

    private static void oneOfSeveral() {
        CHECK.sentence("All is as it was when a mark was made");
        for (int mark = 0; mark < 12; mark++) {
            LoopRegions x = Tell.grid(8, 8);
            for (int m = 0; m < 12; m++) {
                x.mark();
                x.shade(m, true);
            }
            CHECK.due("back(" + mark + ")", x.back(mark), true);
            for (int c = 0; c < 12; c++) {
                CHECK.due("cell(" + c + ", 0) behind back(" + mark + ")", x.cell(c, 0), c < mark ? 1 : 0);
            }
        }
    }

    private static LoopRegions marked(int times) {
        LoopRegions x = Tell.grid(3, 3);
        for (int m = 0; m < times; m++) {
            x.mark();
        }
        return x;
    }

    private static void thatOneAndLaterOnesStandNoMore() {
        CHECK.sentence("that one and later ones do not stand any more");
        LoopRegions x = marked(4);
        CHECK.due("back(1)", x.back(1), true);
        CHECK.due("back(1) again", x.back(1), false);
        CHECK.due("back(2), a later one", x.back(2), false);
        CHECK.due("back(3), the last one", x.back(3), false);
        LoopRegions full = marked(12);
        CHECK.due("back(0)", full.back(0), true);
        for (int m = 0; m < 12; m++) {
            CHECK.due("back(" + m + ") behind back(0)", full.back(m), false);
        }
    }

    private static void earlierOnesStand() {
        CHECK.sentence("that one and later ones do not stand any more");
        LoopRegions x = marked(12);
        for (int m = 11; m >= 0; m--) {
            CHECK.due("back(" + m + ")", x.back(m), true);
        }
        CHECK.due("back(0) when none stands", x.back(0), false);
    }

    private static void falseWhenItDoesNotStand() {
        CHECK.sentence("false when it does not stand");
        CHECK.due("back(0) of a new object", Tell.grid(3, 3).back(0), false);
        CHECK.due("back(-1) of a new object", Tell.grid(3, 3).back(-1), false);
        LoopRegions x = marked(3);
        for (int m : new int[] {-1, -2, 3, 4, 11, 12, 13, 99, Tell.MIN, Tell.MAX}) {
            CHECK.due("back(" + m + ")", x.back(m), false);
        }
        CHECK.due("back(2)", x.back(2), true);
        LoopRegions full = marked(12);
        for (int m : new int[] {-1, 12, 13, Tell.MIN, Tell.MAX}) {
            CHECK.due("back(" + m + ") when 12 stand", full.back(m), false);
        }
        CHECK.due("back(11) when 12 stand", full.back(11), true);
    }

    private static void falseChangesNothing() {
        CHECK.sentence("false when it does not stand");
        LoopRegions x = Tell.grid(3, 3);
        x.mark();
        x.mark();
        x.back(1);
        Tell.ran(Tell.must(Tell.off(x, 0), 0));
        String before = Tell.all(x);
        x.back(1);
        x.back(-1);
        x.back(Tell.MAX);
        CHECK.due("all", Tell.all(x), before);
        CHECK.due("run()", x.run(), 0);
        CHECK.due("mark()", x.mark(), 1);
        CHECK.due("back(0)", x.back(0), true);
        CHECK.due("is(0)", x.is(0), 0);
    }

    private static void sameStepsAgain() {
        CHECK.sentence("All is as it was when a mark was made");
        LoopRegions x = Tell.barred(Tell.must(Tell.grid(3, 3), 0), 4);
        x.mark();
        x.run();
        String first = Tell.all(x);
        x.back(0);
        CHECK.due("steps()", x.steps(), 0);
        x.run();
        CHECK.due("all", Tell.all(x), first);
    }
}
