/** Promise 12: is. */
public final class Promise12IsTest {
    private static final Check CHECK = new Check("Promise 12");

    public static void main(String[] args) {
        openOnOff();
        byAStep();
        eachEdgeByItself();
        noSuchEdge();
        CHECK.end();
    }

    private static void openOnOff() {
        CHECK.sentence("0 OPEN, 1 ON, 2 OFF");
        LoopRegions x = Tell.off(Tell.on(Tell.grid(3, 3), 0), 1);
        CHECK.due("is(0)", x.is(0), 1);
        CHECK.due("is(1)", x.is(1), 2);
        CHECK.due("is(2)", x.is(2), 0);
    }

    private static void byAStep() {
        CHECK.sentence("0 OPEN, 1 ON, 2 OFF");
        LoopRegions x = Tell.ran(Tell.must(Tell.grid(2, 2), 3));
        for (int e : new int[] {0, 1, 3, 4}) {
            CHECK.due("is(" + e + "), ON by a step", x.is(e), 1);
        }
        CHECK.due("is(1), OFF by a step", Tell.ran(Tell.grid(1, 2)).is(1), 2);
    }

    private static void eachEdgeByItself() {
        CHECK.sentence("0 OPEN, 1 ON, 2 OFF");
        PlainModel plain = new PlainModel(8, 8);
        for (int told = 0; told < 128; told++) {
            if (!plain.isEdge(told)) {
                continue;
            }
            LoopRegions x = Tell.on(Tell.grid(8, 8), told);
            for (int e = 0; e < 128; e++) {
                if (plain.isEdge(e)) {
                    CHECK.due("is(" + e + ") when " + told + " is ON", x.is(e), e == told ? 1 : 0);
                }
            }
        }
    }

    private static void noSuchEdge() {
        CHECK.sentence("ArrayIndexOutOfBoundsException: there is no such edge");
        LoopRegions x = Tell.grid(3, 3);
        for (int e : Tell.NO_EDGES_OF_3_BY_3) {
            CHECK.dueThrow("is(" + e + ")", () -> x.is(e), Check.NO_INDEX);
        }
        LoopRegions big = Tell.grid(8, 8);
        for (int e : new int[] {-1, 14, 113, 126, 127, 128, 129}) {
            CHECK.dueThrow("is(" + e + ") of 8 by 8", () -> big.is(e), Check.NO_INDEX);
        }
        LoopRegions one = Tell.grid(1, 1);
        CHECK.dueThrow("is(0) of 1 by 1", () -> one.is(0), Check.NO_INDEX);
        CHECK.dueThrow("is(1) of 1 by 1", () -> one.is(1), Check.NO_INDEX);
    }
}
