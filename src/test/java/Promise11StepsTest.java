/** Promise 11: steps. */
public final class Promise11StepsTest {
    private static final Check CHECK = new Check("Promise 11");

    public static void main(String[] args) {
        noneAtFirst();
        overAllRuns();
        tellingIsNoStep();
        backTakesStepsAway();
        CHECK.end();
    }

    private static void noneAtFirst() {
        CHECK.sentence("How many steps were done");
        CHECK.due("steps() of a new object", Tell.grid(8, 8).steps(), 0);
        CHECK.due("steps() when none was to do", Tell.ran(Tell.grid(8, 8)).steps(), 0);
    }

    private static void overAllRuns() {
        CHECK.sentence("How many steps were done");
        LoopRegions x = Tell.ran(Tell.grid(4, 1));
        CHECK.due("steps()", x.steps(), 3);
        Tell.ran(x);
        CHECK.due("steps() behind a run() without any", x.steps(), 3);
        Tell.ran(Tell.must(x, 0));
        CHECK.due("steps() with a WRONG one", x.steps(), 4);
    }

    private static void tellingIsNoStep() {
        CHECK.sentence("How many steps were done");
        LoopRegions x = Tell.told(Tell.black(Tell.must(Tell.on(Tell.grid(4, 4), 0), 5), 3), 3);
        CHECK.due("steps() before run()", x.steps(), 0);
    }

    private static void backTakesStepsAway() {
        CHECK.sentence("those that back() took away count no more");
        LoopRegions x = Tell.grid(4, 1);
        x.mark();
        Tell.ran(x);
        x.mark();
        Tell.ran(Tell.must(x, 0));
        CHECK.due("steps()", x.steps(), 4);
        x.back(1);
        CHECK.due("steps() behind back(1)", x.steps(), 3);
        x.back(0);
        CHECK.due("steps() behind back(0)", x.steps(), 0);
        x.back(0);
        CHECK.due("steps() behind back(0) that answered false", x.steps(), 0);
    }
}
