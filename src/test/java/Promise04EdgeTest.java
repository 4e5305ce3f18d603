/** Promise 4: edge. */
public final class Promise04EdgeTest {
    private static final Check CHECK = new Check("Promise 4");

    public static void main(String[] args) {
        openEdgeIsOnOrOff();
        falseWhenToldBefore();
        falseWhenAStepSetIt();
        falseChangesNothing();
        openAgainBehindBack();
        noSuchEdge();
        CHECK.end();
    }

    private static void openEdgeIsOnOrOff() {
        CHECK.sentence("An OPEN edge is ON (or OFF): true");
        LoopRegions x = Tell.grid(8, 8);
        CHECK.due("edge(0, true)", x.edge(0, true), true);
        CHECK.due("is(0)", x.is(0), 1);
        CHECK.due("edge(1, false)", x.edge(1, false), true);
        CHECK.due("is(1)", x.is(1), 2);
        CHECK.due("edge(124, false)", x.edge(124, false), true);
        CHECK.due("is(124)", x.is(124), 2);
        CHECK.due("edge(111, true)", x.edge(111, true), true);
        CHECK.due("is(111)", x.is(111), 1);
        CHECK.due("is(2), which was not told", x.is(2), 0);
    }

    private static void falseWhenToldBefore() {
        CHECK.sentence("false when it is not OPEN");
        LoopRegions x = Tell.off(Tell.on(Tell.grid(3, 3), 0), 1);
        CHECK.due("edge(0, true) when ON", x.edge(0, true), false);
        CHECK.due("edge(0, false) when ON", x.edge(0, false), false);
        CHECK.due("edge(1, true) when OFF", x.edge(1, true), false);
        CHECK.due("edge(1, false) when OFF", x.edge(1, false), false);
        CHECK.due("is(0)", x.is(0), 1);
        CHECK.due("is(1)", x.is(1), 2);
    }

    private static void falseWhenAStepSetIt() {
        CHECK.sentence("false when it is not OPEN");
        LoopRegions x = Tell.ran(Tell.barred(Tell.must(Tell.grid(3, 3), 0), 4));
        CHECK.due("edge(0, false), ON by a step", x.edge(0, false), false);
        CHECK.due("edge(0, true), ON by a step", x.edge(0, true), false);
        CHECK.due("edge(3, true), OFF by a step", x.edge(3, true), false);
        CHECK.due("edge(3, false), OFF by a step", x.edge(3, false), false);
        CHECK.due("is(0)", x.is(0), 1);
        CHECK.due("is(3)", x.is(3), 2);
    }

    private static void falseChangesNothing() {
        CHECK.sentence("false when it is not OPEN");
        LoopRegions x = Tell.ran(Tell.barred(Tell.must(Tell.grid(3, 3), 0), 4));
        String before = Tell.all(x);
        x.edge(0, false);
        x.edge(3, true);
        CHECK.due("all", Tell.all(x), before);
        LoopRegions wrong = Tell.wrong();
        wrong.edge(0, true);
        CHECK.due("wrong() behind edge() that answered false", wrong.wrong(), true);
    }

    private static void openAgainBehindBack() {
        CHECK.sentence("An OPEN edge is ON (or OFF): true");
        LoopRegions x = Tell.grid(3, 3);
        x.mark();
        x.edge(0, true);
        x.back(0);
        CHECK.due("edge(0, false) behind back(0)", x.edge(0, false), true);
        CHECK.due("is(0)", x.is(0), 2);
    }

    private static void noSuchEdge() {
        CHECK.sentence("ArrayIndexOutOfBoundsException: there is no such edge");
        LoopRegions x = Tell.wrong();
        String before = Tell.all(x);
        for (int e : Tell.NO_EDGES_OF_3_BY_3) {
            CHECK.dueThrow("edge(" + e + ", true)", () -> x.edge(e, true), Check.NO_INDEX);
            CHECK.dueThrow("edge(" + e + ", false)", () -> x.edge(e, false), Check.NO_INDEX);
        }
        CHECK.due("all, behind what was refused", Tell.all(x), before);
        LoopRegions one = Tell.grid(1, 1);
        CHECK.dueThrow("edge(0, true) of 1 by 1", () -> one.edge(0, true), Check.NO_INDEX);
        CHECK.dueThrow("edge(1, true) of 1 by 1", () -> one.edge(1, true), Check.NO_INDEX);
        LoopRegions big = Tell.grid(8, 8);
        for (int e : new int[] {14, 113, 126, 127, 128, 129}) {
            CHECK.dueThrow("edge(" + e + ", true) of 8 by 8", () -> big.edge(e, true), Check.NO_INDEX);
        }
    }
}
