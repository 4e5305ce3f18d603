/** Promise 8: run, but for the twelve steps, which are in Promise08StepsTest. */
public final class Promise08RunTest {
    private static final Check CHECK = new Check("Promise 8");

    public static void main(String[] args) {
        stepsDoneByThisRun();
        theWrongOneCounts();
        noneToDo();
        wrongIsTheLastStep();
        noneMoreUntilSomethingIsTold();
        refusedCallsTellNothing();
        askingTellsNothing();
        noneMoreUntilBack();
        stillWrongWhenItIs();
        CHECK.end();
    }

    private static void stepsDoneByThisRun() {
        CHECK.sentence("how many steps were done by it");
        LoopRegions x = Tell.grid(1, 5);
        CHECK.due("run()", x.run(), 4);
        Tell.told(x, 0);
        CHECK.due("run() behind told(0)", x.run(), 1);
        CHECK.due("steps()", x.steps(), 5);
        LoopRegions y = Tell.grid(1, 5);
        y.mark();
        y.run();
        y.back(0);
        CHECK.due("run() behind back()", y.run(), 4);
    }

    private static void theWrongOneCounts() {
        CHECK.sentence("(a WRONG one, too)");
        CHECK.due("run() that is WRONG at once", Tell.must(Tell.grid(1, 1), 0).run(), 1);
        LoopRegions x = Tell.told(Tell.grid(1, 3), 4);
        CHECK.due("run() of two steps and a WRONG one", x.run(), 3);
        CHECK.due("wrong()", x.wrong(), true);
    }

    private static void noneToDo() {
        CHECK.sentence("0 when there was none");
        for (int side = 2; side <= 8; side++) {
            CHECK.due("run() of a new " + side + " by " + side, Tell.grid(side, side).run(), 0);
        }
        CHECK.due("run() of a new 1 by 1", Tell.grid(1, 1).run(), 0);
        LoopRegions x = Tell.ran(Tell.grid(1, 5));
        CHECK.due("run() again", x.run(), 0);
        CHECK.due("steps()", x.steps(), 4);
        CHECK.due("run() when WRONG", Tell.wrong().run(), 0);
    }

    private static void wrongIsTheLastStep() {
        CHECK.sentence("When something is WRONG, that is the last step");
        LoopRegions x = Tell.ran(Tell.told(Tell.barred(Tell.must(Tell.off(Tell.grid(3, 3), 0), 0), 8), 0));
        CHECK.due("the log", Tell.log(x), "1@0");
        CHECK.due("run() again", x.run(), 0);
        CHECK.due("the log", Tell.log(x), "1@0");
    }

    private static void noneMoreUntilSomethingIsTold() {
        CHECK.sentence("there is none more until something is told");
        LoopRegions x = Tell.wrong();
        CHECK.due("run() when nothing is told", x.run(), 0);
        x.edge(14, true);
        CHECK.due("run() behind edge()", x.run(), 1);
        CHECK.due("run() behind it", x.run(), 0);
        x.duty(7, 1);
        CHECK.due("run() behind duty()", x.run(), 1);
        CHECK.due("run() behind it", x.run(), 0);
        x.shade(5, true);
        CHECK.due("run() behind shade()", x.run(), 1);
        CHECK.due("run() behind it", x.run(), 0);
        x.told(3);
        CHECK.due("run() behind told(3)", x.run(), 1);
        CHECK.due("run() behind it", x.run(), 0);
        x.told(3);
        CHECK.due("run() behind told(3) again", x.run(), 1);
        x.told(-1);
        CHECK.due("run() behind told(-1)", x.run(), 1);
        CHECK.due("the log", Tell.log(x), "1@0 | 1@0 | 1@0 | 1@0 | 1@0 | 1@0 | 1@0");
    }

    private static void refusedCallsTellNothing() {
        CHECK.sentence("there is none more until something is told");
        LoopRegions x = Tell.wrong();
        x.shade(4, true);
        x.run();
        CHECK.due("edge(0, true), which is OFF", x.edge(0, true), false);
        CHECK.due("duty(0, 1), as it is", x.duty(0, 1), false);
        CHECK.due("shade(4, false), which is black", x.shade(4, false), false);
        CHECK.due("back(0), which does not stand", x.back(0), false);
        Check.outcome(() -> x.edge(99, true));
        Check.outcome(() -> x.duty(99, 1));
        Check.outcome(() -> x.duty(1, 3));
        Check.outcome(() -> x.shade(99, true));
        Check.outcome(() -> { x.told(65); return 0; });
        CHECK.due("wrong()", x.wrong(), true);
        CHECK.due("run()", x.run(), 0);
        CHECK.due("steps()", x.steps(), 2);
    }

    private static void askingTellsNothing() {
        CHECK.sentence("there is none more until something is told");
        LoopRegions x = Tell.wrong();
        Tell.all(x);
        x.end(0, true);
        x.size();
        CHECK.due("mark()", x.mark(), 0);
        CHECK.due("wrong()", x.wrong(), true);
        CHECK.due("run()", x.run(), 0);
    }

    private static void noneMoreUntilBack() {
        CHECK.sentence("there is none more until .. back()");
        LoopRegions x = Tell.must(Tell.off(Tell.grid(3, 3), 0), 0);
        x.mark();
        CHECK.due("run()", x.run(), 1);
        CHECK.due("run() when WRONG", x.run(), 0);
        CHECK.due("back(0)", x.back(0), true);
        CHECK.due("wrong()", x.wrong(), false);
        CHECK.due("run() behind back(0)", x.run(), 1);
        CHECK.due("steps()", x.steps(), 1);
    }

    private static void stillWrongWhenItIs() {
        CHECK.sentence("as long as there is one, the first of these steps");
        LoopRegions x = Tell.wrong();
        x.duty(0, 0);
        CHECK.due("run() when it is well again", x.run() > 0, true);
        CHECK.due("wrong()", x.wrong(), false);
        CHECK.due("the log", Tell.log(x), "1@0 | 3@0 2");
    }
}
