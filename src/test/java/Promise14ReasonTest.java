/** Promise 14: reason. */
public final class Promise14ReasonTest {
    private static final Check CHECK = new Check("Promise 14");

    public static void main(String[] args) {
        theStep();
        none();
        noneBehindBack();
        noSuchEdge();
        CHECK.end();
    }

    private static void theStep() {
        CHECK.sentence("The step by which an edge came");
        LoopRegions line = Tell.ran(Tell.grid(4, 1));
        CHECK.due("reason(0)", line.reason(0), 0);
        CHECK.due("reason(2)", line.reason(2), 1);
        CHECK.due("reason(4)", line.reason(4), 2);
        LoopRegions x = Tell.ran(Tell.barred(Tell.grid(3, 3), 4));
        for (int e : new int[] {3, 8, 9, 6}) {
            CHECK.due("reason(" + e + "), one of four of a step", x.reason(e), 0);
        }
        LoopRegions late = Tell.ran(Tell.told(Tell.grid(3, 3), 0));
        Tell.ran(Tell.barred(late, 8));
        CHECK.due("reason(14) behind a step of shades", late.reason(14), 1);
    }

    private static void none() {
        CHECK.sentence("-1: none");
        LoopRegions x = Tell.on(Tell.grid(3, 2), 0, 1);
        CHECK.due("reason(6) when it is OPEN", x.reason(6), -1);
        x.run();
        CHECK.due("reason(6)", x.reason(6), 0);
        CHECK.due("reason(0), which was told", x.reason(0), -1);
        CHECK.due("reason(3), which is OPEN", x.reason(3), -1);
        LoopRegions shades = Tell.ran(Tell.told(Tell.grid(3, 3), 0));
        for (int e : new int[] {0, 1, 2, 3, 5, 6, 7, 8}) {
            CHECK.due("reason(" + e + "), when only shades came", shades.reason(e), -1);
        }
        CHECK.due("reason(0), told and then WRONG", Tell.wrong().reason(0), -1);
    }

    private static void noneBehindBack() {
        CHECK.sentence("-1: none");
        LoopRegions x = Tell.grid(4, 1);
        x.mark();
        x.run();
        x.back(0);
        CHECK.due("reason(4) behind back(0)", x.reason(4), -1);
        Tell.off(x, 4);
        CHECK.due("reason(4), which is told now", x.reason(4), -1);
        x.run();
        CHECK.due("reason(4), which was told before run()", x.reason(4), -1);
        CHECK.due("reason(2)", x.reason(2), 1);
    }

    private static void noSuchEdge() {
        CHECK.sentence("ArrayIndexOutOfBoundsException: there is no such edge");
        LoopRegions x = Tell.grid(3, 3);
        for (int e : Tell.NO_EDGES_OF_3_BY_3) {
            CHECK.dueThrow("reason(" + e + ")", () -> x.reason(e), Check.NO_INDEX);
        }
        LoopRegions big = Tell.grid(8, 8);
        for (int e : new int[] {-1, 14, 113, 126, 127, 128, 129}) {
            CHECK.dueThrow("reason(" + e + ") of 8 by 8", () -> big.reason(e), Check.NO_INDEX);
        }
        LoopRegions one = Tell.grid(1, 1);
        CHECK.dueThrow("reason(0) of 1 by 1", () -> one.reason(0), Check.NO_INDEX);
    }
}
