/** Promise 13: cell. */
public final class Promise13CellTest {
    private static final Check CHECK = new Check("Promise 13");

    public static void main(String[] args) {
        shade();
        duty();
        edgesOn();
        edgesOpen();
        stepOfTheShade();
        noStepOfTheShade();
        minusOneForOthers();
        noSuchCell();
        CHECK.end();
    }

    private static void shade() {
        CHECK.sentence("0 its shade");
        LoopRegions x = Tell.white(Tell.black(Tell.grid(8, 8), 0), 63);
        CHECK.due("cell(0, 0)", x.cell(0, 0), 1);
        CHECK.due("cell(63, 0)", x.cell(63, 0), 2);
        CHECK.due("cell(1, 0)", x.cell(1, 0), 0);
    }

    private static void duty() {
        CHECK.sentence("1 its duty");
        LoopRegions x = Tell.barred(Tell.must(Tell.grid(8, 8), 0), 63);
        CHECK.due("cell(0, 1)", x.cell(0, 1), 1);
        CHECK.due("cell(63, 1)", x.cell(63, 1), 2);
        CHECK.due("cell(1, 1)", x.cell(1, 1), 0);
    }

    private static void edgesOn() {
        CHECK.sentence("2 how many of its edges are ON");
        LoopRegions x = Tell.grid(3, 3);
        int[] edges = {3, 8, 9, 6};
        for (int i = 0; i < 4; i++) {
            CHECK.due("cell(4, 2) with " + i + " ON", x.cell(4, 2), i);
            Tell.on(x, edges[i]);
        }
        CHECK.due("cell(4, 2) with 4 ON", x.cell(4, 2), 4);
        for (int c : new int[] {1, 3, 5, 7}) {
            CHECK.due("cell(" + c + ", 2)", x.cell(c, 2), 1);
        }
        for (int c : new int[] {0, 2, 6, 8}) {
            CHECK.due("cell(" + c + ", 2)", x.cell(c, 2), 0);
        }
    }

    private static void edgesOpen() {
        CHECK.sentence("3 how many are OPEN");
        LoopRegions x = Tell.grid(3, 3);
        int[] around = {2, 3, 2, 3, 4, 3, 2, 3, 2};
        for (int c = 0; c < 9; c++) {
            CHECK.due("cell(" + c + ", 3)", x.cell(c, 3), around[c]);
        }
        Tell.off(Tell.on(x, 3), 6);
        CHECK.due("cell(4, 3) with one ON and one OFF", x.cell(4, 3), 2);
        Tell.off(x, 8, 9);
        CHECK.due("cell(4, 3) with none", x.cell(4, 3), 0);
        CHECK.due("cell(0, 3) of 1 by 1", Tell.grid(1, 1).cell(0, 3), 0);
        CHECK.due("cell(0, 3) of 1 by 8", Tell.grid(1, 8).cell(0, 3), 1);
        CHECK.due("cell(7, 3) of 1 by 8", Tell.grid(1, 8).cell(7, 3), 1);
        CHECK.due("cell(4, 3) of 8 by 1", Tell.grid(8, 1).cell(4, 3), 2);
        CHECK.due("cell(63, 3) of 8 by 8", Tell.grid(8, 8).cell(63, 3), 2);
        CHECK.due("cell(8, 3) of 8 by 8, at the left rim", Tell.grid(8, 8).cell(8, 3), 3);
        CHECK.due("cell(15, 3) of 8 by 8, at the right rim", Tell.grid(8, 8).cell(15, 3), 3);
    }

    private static void stepOfTheShade() {
        CHECK.sentence("4 the step by which its shade came");
        LoopRegions x = Tell.ran(Tell.white(Tell.black(Tell.grid(4, 4), 0, 15), 1, 5));
        CHECK.due("cell(4, 4)", x.cell(4, 4), 0);
        CHECK.due("cell(8, 4)", x.cell(8, 4), 1);
        LoopRegions many = Tell.ran(Tell.told(Tell.grid(8, 8), 0));
        CHECK.due("cell(0, 4)", many.cell(0, 4), 0);
        CHECK.due("cell(63, 4)", many.cell(63, 4), 0);
        LoopRegions late = Tell.ran(Tell.told(Tell.grid(4, 1), 0));
        CHECK.due("cell(3, 4) behind three steps of edges", late.cell(3, 4), 3);
    }

    private static void noStepOfTheShade() {
        CHECK.sentence("(-1: none)");
        LoopRegions x = Tell.ran(Tell.white(Tell.black(Tell.grid(4, 4), 0, 15), 1, 5));
        CHECK.due("cell(0, 4), which was told black", x.cell(0, 4), -1);
        CHECK.due("cell(1, 4), which was told white", x.cell(1, 4), -1);
        CHECK.due("cell(9, 4), which is open", x.cell(9, 4), -1);
        LoopRegions edges = Tell.ran(Tell.grid(4, 1));
        for (int c = 0; c < 4; c++) {
            CHECK.due("cell(" + c + ", 4), when only edges came", edges.cell(c, 4), -1);
        }
        LoopRegions back = Tell.told(Tell.grid(2, 2), 0);
        back.mark();
        back.run();
        back.back(0);
        CHECK.due("cell(0, 4) behind back(0)", back.cell(0, 4), -1);
        Tell.black(back, 0);
        CHECK.due("cell(0, 4), which is told now", back.cell(0, 4), -1);
    }

    private static void minusOneForOthers() {
        CHECK.sentence("-1 for others");
        LoopRegions x = Tell.ran(Tell.told(Tell.grid(3, 3), 0));
        for (int what : new int[] {-1, -2, 5, 6, 100, Tell.MIN, Tell.MAX}) {
            CHECK.due("cell(0, " + what + ")", x.cell(0, what), -1);
            CHECK.due("cell(8, " + what + ")", x.cell(8, what), -1);
        }
    }

    private static void noSuchCell() {
        CHECK.sentence("ArrayIndexOutOfBoundsException: there is no such cell");
        LoopRegions x = Tell.grid(3, 3);
        for (int c : Tell.NO_CELLS_OF_3_BY_3) {
            for (int what : new int[] {0, 1, 2, 3, 4, 5, -1}) {
                CHECK.dueThrow("cell(" + c + ", " + what + ")", () -> x.cell(c, what), Check.NO_INDEX);
            }
        }
        LoopRegions big = Tell.grid(8, 8);
        CHECK.dueThrow("cell(64, 0) of 8 by 8", () -> big.cell(64, 0), Check.NO_INDEX);
        CHECK.dueThrow("cell(-1, 0) of 8 by 8", () -> big.cell(-1, 0), Check.NO_INDEX);
        LoopRegions one = Tell.grid(1, 1);
        CHECK.dueThrow("cell(1, 0) of 1 by 1", () -> one.cell(1, 0), Check.NO_INDEX);
    }
}
