/** What the document says before its first promise: the use of an object, the grid, and how all is at first. */
public final class TermsTest {
    private static final Check CHECK = new Check("Terms");

    public static void main(String[] args) {
        callsUpTo512();
        stepsUpTo512Calls();
        laterCallsStillEnd();
        cellsByRows();
        edgesThatAreThere();
        allIsOpenAtFirst();
        toldIsNothingAtFirst();
        noNeighboursOverTheRim();
        partOfOneCell();
        neededCells();
        CHECK.end();
    }

    private static void callsUpTo512() {
        CHECK.sentence("An object is used for at most 512 calls");
        LoopRegions x = Tell.grid(8, 8);
        for (int i = 0; i < 511; i++) {
            x.told(-1);
        }
        CHECK.due("the 512th call, size()", x.size(), 64);
    }

    // No run of calls can do more WRONG steps than this one.
    private static void stepsUpTo512Calls() {
        CHECK.sentence("An object is used for at most 512 calls");
        LoopRegions x = Tell.grid(1, 1);
        for (int i = 1; i <= 256; i++) {
            x.told(2);
            CHECK.due("run() as call " + 2 * i, x.run(), 1);
        }
        LoopRegions full = Tell.grid(1, 1);
        for (int i = 1; i <= 255; i++) {
            full.told(2);
            full.run();
        }
        CHECK.due("steps() as call 511", full.steps(), 255);
        CHECK.due("step(254, 0) as call 512", full.step(254, 0), 10);
    }

    private static void laterCallsStillEnd() {
        CHECK.sentence("what later calls answer is free");
        LoopRegions x = Tell.grid(2, 2);
        for (int i = 0; i < 3000; i++) {
            x.told(5);
            x.run();
            x.mark();
            x.cell(0, 4);
            x.reason(0);
        }
        x.step(x.steps() - 1, 3);
        x.back(11);
        CHECK.due("size()", x.size(), 4);
    }

    private static void cellsByRows() {
        CHECK.sentence("(x, y) is cell W y + x");
        for (int w = 1; w <= 8; w++) {
            for (int h = 1; h <= 8; h++) {
                LoopRegions x = Tell.grid(w, h);
                String name = w + " by " + h;
                CHECK.due("the last cell's shade in " + name, x.cell(w * h - 1, 0), 0);
                if (w > 1) {
                    CHECK.due("to the right of (0, " + (h - 1) + ") in " + name,
                        x.end(2 * (w * (h - 1)), true), w * (h - 1) + 1);
                }
                if (h > 1) {
                    CHECK.due("below (" + (w - 1) + ", 0) in " + name, x.end(2 * (w - 1) + 1, true), 2 * w - 1);
                }
            }
        }
    }

    private static void edgesThatAreThere() {
        CHECK.sentence("EDGE 2 p, .. EDGE 2 p + 1 (if these are there)");
        for (int w = 1; w <= 8; w++) {
            for (int h = 1; h <= 8; h++) {
                LoopRegions x = Tell.grid(w, h);
                PlainModel plain = new PlainModel(w, h);
                for (int i = -300; i < 400; i++) {
                    int e = i;
                    Object due = plain.isEdge(e) ? 0 : Check.NO_INDEX.getName();
                    CHECK.due("is(" + e + ") in " + w + " by " + h, Check.outcome(() -> x.is(e)), due);
                }
            }
        }
    }

    private static void allIsOpenAtFirst() {
        CHECK.sentence("OPEN (0, at first) .. FREE (0, at first) .. its SHADE is OPEN (0, at first)");
        LoopRegions x = Tell.grid(8, 8);
        for (int p = 0; p < 64; p++) {
            CHECK.due("cell(" + p + ", 0)", x.cell(p, 0), 0);
            CHECK.due("cell(" + p + ", 1)", x.cell(p, 1), 0);
            CHECK.due("cell(" + p + ", 2)", x.cell(p, 2), 0);
        }
        CHECK.due("is(0)", x.is(0), 0);
        CHECK.due("is(1)", x.is(1), 0);
        CHECK.due("is(124)", x.is(124), 0);
        CHECK.due("is(111)", x.is(111), 0);
    }

    private static void toldIsNothingAtFirst() {
        CHECK.sentence("TOLD is how many cells have to be black, or -1 (at first)");
        LoopRegions x = Tell.grid(2, 2);
        CHECK.due("run()", x.run(), 0);
        Tell.black(x, 0, 1, 2, 3);
        CHECK.due("run() when all are black", x.run(), 0);
        LoopRegions y = Tell.white(Tell.grid(2, 2), 0, 1, 2, 3);
        CHECK.due("run() when all are white", y.run(), 0);
    }

    private static void noNeighboursOverTheRim() {
        CHECK.sentence("NEIGHBOURS are those above, to the right, below, to the left");
        // Cells 2 and 3 follow one another, but lie at both ends of two rows.
        LoopRegions shades = Tell.ran(Tell.black(Tell.white(Tell.grid(3, 2), 1, 4), 2, 3));
        CHECK.due("black at both ends of two rows", Tell.log(shades), "11@3");
        LoopRegions edges = Tell.ran(Tell.must(Tell.off(Tell.grid(6, 4), 4, 16, 28, 40), 11, 12));
        CHECK.due("MUSTs at both ends of two rows", Tell.log(edges), "9@12");
        LoopRegions column = Tell.ran(Tell.black(Tell.white(Tell.grid(1, 3), 1), 0, 2));
        CHECK.due("one column", Tell.log(column).endsWith("11@2"), true);
    }

    private static void partOfOneCell() {
        CHECK.sentence("A PART (by edges) is all cells that can be come to from one");
        LoopRegions lone = Tell.ran(Tell.off(Tell.grid(3, 3), 0, 1));
        CHECK.due("a cell with no edge that is not OFF", Tell.log(lone), "");
        CHECK.sentence("A PART (by shades) is all cells that are not white");
        LoopRegions shade = Tell.ran(Tell.black(Tell.white(Tell.grid(3, 3), 1, 3), 0));
        CHECK.due("a black cell among white ones", Tell.log(shade),
            "11@2 4 | 11@4 8 | 11@5 10 | 11@6 12 | 11@7 14 | 11@8 16");
    }

    private static void neededCells() {
        CHECK.sentence("The loop NEEDS a cell that is a MUST or has an edge that is ON");
        int[] cutInTwo = {9, 11, 13, 15};
        CHECK.due("by a MUST", Tell.ran(Tell.must(Tell.off(Tell.grid(4, 4), cutInTwo), 1, 13)).step(0, 1), 13);
        CHECK.due("by an edge", Tell.ran(Tell.on(Tell.must(Tell.off(Tell.grid(4, 4), cutInTwo), 1), 26)).step(0, 1), 13);
        CHECK.due("by none", Tell.ran(Tell.off(Tell.grid(4, 4), cutInTwo)).steps(), 0);
    }
}
