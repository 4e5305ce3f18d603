/** Promise 3: end. */
public final class Promise03EndTest {
    private static final Check CHECK = new Check("Promise 3");

    public static void main(String[] args) {
        lesserAndGreater();
        firstAndLastEdge();
        noSuchEdge();
        noSuchEdgeAtTheRim();
        CHECK.end();
    }

    private static void lesserAndGreater() {
        CHECK.sentence("The cells of an edge: the lesser one (or the greater one)");
        LoopRegions x = Tell.grid(3, 2);
        int[][] ends = {{0, 0, 1}, {1, 0, 3}, {2, 1, 2}, {3, 1, 4}, {5, 2, 5}, {6, 3, 4}, {8, 4, 5}};
        for (int[] e : ends) {
            CHECK.due("end(" + e[0] + ", false)", x.end(e[0], false), e[1]);
            CHECK.due("end(" + e[0] + ", true)", x.end(e[0], true), e[2]);
        }
    }

    private static void firstAndLastEdge() {
        CHECK.sentence("The cells of an edge: the lesser one (or the greater one)");
        LoopRegions big = Tell.grid(8, 8);
        CHECK.due("end(0, false)", big.end(0, false), 0);
        CHECK.due("end(1, true)", big.end(1, true), 8);
        CHECK.due("end(111, false)", big.end(111, false), 55);
        CHECK.due("end(111, true)", big.end(111, true), 63);
        CHECK.due("end(124, false)", big.end(124, false), 62);
        CHECK.due("end(124, true)", big.end(124, true), 63);
        CHECK.due("end(1, true) of 1 by 2", Tell.grid(1, 2).end(1, true), 1);
        CHECK.due("end(0, true) of 2 by 1", Tell.grid(2, 1).end(0, true), 1);
    }

    private static void refused(LoopRegions x, String name, int... edges) {
        for (int e : edges) {
            CHECK.dueThrow("end(" + e + ", false) of " + name, () -> x.end(e, false), Check.NO_INDEX);
            CHECK.dueThrow("end(" + e + ", true) of " + name, () -> x.end(e, true), Check.NO_INDEX);
        }
    }

    private static void noSuchEdge() {
        CHECK.sentence("ArrayIndexOutOfBoundsException: there is no such edge");
        refused(Tell.grid(3, 3), "3 by 3", Tell.NO_EDGES_OF_3_BY_3);
        refused(Tell.grid(8, 8), "8 by 8", -1, 126, 127, 128, 129, 256, Tell.MIN, Tell.MAX);
        refused(Tell.grid(1, 1), "1 by 1", -1, 0, 1, 2, Tell.MIN, Tell.MAX);
    }

    private static void noSuchEdgeAtTheRim() {
        CHECK.sentence("ArrayIndexOutOfBoundsException: there is no such edge");
        refused(Tell.grid(3, 2), "3 by 2", 4, 7, 9, 10, 11);
        refused(Tell.grid(8, 1), "8 by 1", 1, 3, 13, 14, 15);
        refused(Tell.grid(1, 8), "1 by 8", 0, 2, 12, 14, 15);
    }
}
