/** Promise 9: wrong. */
public final class Promise09WrongTest {
    private static final Check CHECK = new Check("Promise 9");

    public static void main(String[] args) {
        onlyAStepMakesItWrong();
        eachWrongStep();
        untilSomethingIsTold();
        refusedCallsLeaveIt();
        backLeadsToWhatWas();
        CHECK.end();
    }

    private static void onlyAStepMakesItWrong() {
        CHECK.sentence("Whether something is WRONG");
        LoopRegions x = Tell.grid(2, 2);
        CHECK.due("wrong() of a new object", x.wrong(), false);
        Tell.must(Tell.off(x, 0), 0);
        CHECK.due("wrong() before run()", x.wrong(), false);
        x.run();
        CHECK.due("wrong() behind run()", x.wrong(), true);
        LoopRegions well = Tell.ran(Tell.grid(1, 5));
        CHECK.due("wrong() behind steps that change", well.wrong(), false);
    }

    private static void eachWrongStep() {
        CHECK.sentence("Whether something is WRONG");
        LoopRegions[] wrongs = {
            Tell.on(Tell.grid(3, 3), 3, 8, 9),
            Tell.on(Tell.grid(5, 2), 0, 1, 3, 10, 7),
            Tell.off(Tell.on(Tell.grid(4, 4), 18), 2, 10, 26),
            Tell.on(Tell.off(Tell.grid(4, 4), 2, 10, 9), 11),
            Tell.must(Tell.off(Tell.grid(4, 4), 9, 11, 13, 15), 1, 13),
            Tell.told(Tell.grid(2, 2), 5),
            Tell.black(Tell.white(Tell.grid(3, 3), 3, 4, 5), 0, 8)};
        int[] numbers = {1, 5, 7, 8, 9, 10, 11};
        for (int i = 0; i < wrongs.length; i++) {
            LoopRegions x = wrongs[i];
            x.run();
            int last = x.steps() - 1;
            CHECK.due("the last step's number", x.step(last, 0), numbers[i]);
            CHECK.due("how many it changed", x.step(last, 2), 0);
            CHECK.due("wrong() by step " + numbers[i], x.wrong(), true);
        }
    }

    private static void untilSomethingIsTold() {
        CHECK.sentence("until something is told");
        LoopRegions x = Tell.wrong();
        x.edge(14, true);
        CHECK.due("wrong() behind edge()", x.wrong(), false);
        x.run();
        x.duty(7, 1);
        CHECK.due("wrong() behind duty()", x.wrong(), false);
        x.run();
        x.shade(5, true);
        CHECK.due("wrong() behind shade()", x.wrong(), false);
        x.run();
        x.told(-1);
        CHECK.due("wrong() behind told()", x.wrong(), false);
        x.run();
        CHECK.due("wrong() behind run()", x.wrong(), true);
    }

    private static void refusedCallsLeaveIt() {
        CHECK.sentence("until something is told");
        LoopRegions x = Tell.wrong();
        CHECK.due("edge(0, true)", x.edge(0, true), false);
        CHECK.due("wrong() behind edge() that answered false", x.wrong(), true);
        CHECK.due("duty(0, 1)", x.duty(0, 1), false);
        CHECK.due("wrong() behind duty() that answered false", x.wrong(), true);
        CHECK.due("back(0)", x.back(0), false);
        CHECK.due("wrong() behind back() that answered false", x.wrong(), true);
        CHECK.due("run()", x.run(), 0);
        CHECK.due("wrong() behind run() that answered 0", x.wrong(), true);
        LoopRegions y = Tell.ran(Tell.told(Tell.black(Tell.grid(2, 2), 0, 1), 1));
        CHECK.due("shade(0, true)", y.shade(0, true), false);
        CHECK.due("wrong() behind shade() that answered false", y.wrong(), true);
    }

    private static void backLeadsToWhatWas() {
        CHECK.sentence("or back()");
        LoopRegions x = Tell.grid(1, 1);
        x.mark();
        Tell.ran(Tell.must(x, 0));
        x.mark();
        x.duty(0, 0);
        CHECK.due("wrong() behind duty(0, 0)", x.wrong(), false);
        x.back(1);
        CHECK.due("wrong() behind back(1), which was WRONG", x.wrong(), true);
        x.back(0);
        CHECK.due("wrong() behind back(0), which was not", x.wrong(), false);
    }
}
