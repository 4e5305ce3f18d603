/**
 * Promise 8: run, by each of the twelve steps. A log is written as step() tells it: number@place, then what was
 * changed; a step that changed nothing is WRONG.
 */
public final class Promise08StepsTest {
    private static final Check CHECK = new Check("Promise 8, the steps");

    public static void main(String[] args) {
        cellWithTooManyOn();
        cellBarred();
        cellWithTooFewLeft();
        full();
        fullWithoutOpenEdges();
        alone();
        aloneNeedsJustOne();
        forced();
        forcedNeedsJustTwo();
        closed();
        closedWithNothingElse();
        early();
        earlyWithNothingElse();
        borderNumbers();
        borderOdd();
        borderJustOneOpen();
        borderByBorder();
        bridge();
        apart();
        apartWithNoneNeeded();
        manyNotTold();
        manyWrong();
        manyJust();
        parts();
        partsWithNoneBlack();
        cut();
        cutNeedsTwoBlack();
        firstStepFirst();
        firstPlaceFirst();
        CHECK.end();
    }

    private static LoopRegions grid(int w, int h) {
        return Tell.grid(w, h);
    }

    /** The whole log of a run on a fresh object. */
    private static void whole(String name, LoopRegions x, String want) {
        int done = x.run();
        CHECK.due(name, Tell.log(x), want);
        CHECK.due(name + ": run()", done, x.steps());
        boolean lastIsWrong = done > 0 && x.step(done - 1, 2) == 0;
        CHECK.due(name + ": wrong()", x.wrong(), lastIsWrong);
    }

    private static void begins(String name, LoopRegions x, String want) {
        x.run();
        String got = Tell.log(x);
        CHECK.due(name, (got + " |").startsWith(want + " |") ? want : got, want);
    }

    private static void cellWithTooManyOn() {
        CHECK.sentence("1 CELL: a cell with three or more edges ON");
        whole("three ON", Tell.on(grid(3, 3), 3, 8, 9), "1@4");
        whole("three ON, not above", Tell.on(grid(3, 3), 6, 8, 9), "1@4");
        whole("three ON, not to the right", Tell.on(grid(3, 3), 3, 6, 9), "1@4");
        whole("three ON, not below", Tell.on(grid(3, 3), 3, 6, 8), "1@4");
        whole("four ON", Tell.on(grid(3, 3), 3, 6, 8, 9), "1@4");
        begins("two ON", Tell.on(grid(3, 3), 3, 8), "2@4 18 12");
        whole("three at the rim", Tell.on(grid(8, 8), 95, 108, 111), "1@55");
    }

    private static void cellBarred() {
        CHECK.sentence("1 CELL: .. a BARRED one with some ON");
        whole("one ON", Tell.on(Tell.barred(grid(3, 3), 4), 6), "1@4");
        whole("two ON", Tell.on(Tell.barred(grid(3, 3), 4), 6, 8), "1@4");
        begins("none ON", Tell.barred(grid(3, 3), 4), "2@4 6 16 18 12");
        whole("one ON at a neighbour", Tell.barred(Tell.on(grid(2, 2), 0), 1), "1@1");
    }

    private static void cellWithTooFewLeft() {
        CHECK.sentence("1 CELL: .. a MUST, or one with one ON, with fewer than two edges that are not OFF");
        whole("a MUST with none", Tell.must(grid(1, 1), 0), "1@0");
        whole("a MUST with one", Tell.must(Tell.off(grid(3, 3), 0), 0), "1@0");
        begins("a MUST with two", Tell.must(Tell.off(grid(5, 5), 5), 2), "4@2 9 5");
        whole("a MUST with one that is ON", Tell.on(Tell.must(Tell.off(grid(3, 3), 0), 0), 1), "1@0");
        whole("one ON and no more", Tell.on(grid(2, 1), 0), "1@0");
        whole("one ON and the others OFF", Tell.off(Tell.on(grid(3, 3), 3), 6, 8, 9), "1@4");
        begins("one ON and one OPEN", Tell.off(Tell.on(grid(3, 3), 3), 6, 8), "4@4 19");
        whole("free, with none", grid(1, 1), "");
        begins("free, with one OPEN", Tell.off(grid(3, 3), 0), "3@0 2");
        whole("the first of two", Tell.on(Tell.barred(Tell.must(Tell.off(grid(3, 3), 14), 8), 4), 6), "1@4");
    }

    private static void full() {
        CHECK.sentence("2 FULL: a cell with two ON, or BARRED, with OPEN edges: these are OFF");
        begins("two ON", Tell.on(grid(3, 3), 6, 8), "2@4 6 18");
        begins("two ON, one OPEN", Tell.off(Tell.on(grid(3, 3), 6, 8), 3), "2@4 18");
        begins("BARRED", Tell.barred(grid(3, 3), 4), "2@4 6 16 18 12");
        begins("BARRED, some OFF", Tell.off(Tell.barred(grid(3, 3), 4), 8), "2@4 6 18 12");
        begins("BARRED, one OPEN", Tell.off(Tell.barred(grid(3, 3), 4), 3, 8, 9), "2@4 12");
        begins("first place", Tell.barred(grid(3, 3), 4, 2), "2@2 10 4 | 2@4 6 16 18 12");
    }

    private static void fullWithoutOpenEdges() {
        CHECK.sentence("2 FULL: .. with OPEN edges");
        whole("BARRED with no edge", Tell.barred(grid(1, 1), 0), "");
        whole("BARRED, all OFF", Tell.off(Tell.barred(grid(3, 3), 4), 3, 6, 8, 9), "");
        whole("two ON, the others OFF", Tell.off(Tell.on(grid(5, 5), 22, 24), 15, 25), "");
        whole("one ON", Tell.on(grid(5, 5), 22), "");
    }

    private static void alone() {
        CHECK.sentence("3 ALONE: a cell that is no MUST, without edges ON, with one OPEN: that is OFF");
        whole("a line of cells", grid(1, 5), "3@0 2 | 3@1 6 | 3@2 10 | 3@3 14");
        whole("a line across", grid(4, 1), "3@0 0 | 3@1 4 | 3@2 8");
        whole("the longest line", grid(8, 1), "3@0 0 | 3@1 4 | 3@2 8 | 3@3 12 | 3@4 16 | 3@5 20 | 3@6 24");
        whole("the shortest line", grid(2, 1), "3@0 0");
        whole("the last cell", Tell.off(grid(3, 3), 14), "3@8 22");
    }

    private static void aloneNeedsJustOne() {
        CHECK.sentence("3 ALONE: .. no MUST, without edges ON, with one OPEN");
        whole("two OPEN", grid(2, 2), "");
        whole("none OPEN", Tell.off(grid(3, 3), 0, 1), "");
        whole("a MUST", Tell.must(grid(2, 1), 0), "1@0");
        whole("one ON", Tell.off(Tell.on(grid(5, 5), 22), 15, 25), "4@12 49");
        begins("BARRED is FULL", Tell.barred(grid(2, 1), 0), "2@0 0");
    }

    private static void forced() {
        CHECK.sentence("4 FORCED: a MUST, or a cell with one ON, with two edges that are not OFF, some OPEN: these are ON");
        whole("a MUST in a corner", Tell.must(grid(2, 2), 3), "4@3 7 9 | 4@1 1 | 4@0 3");
        whole("a path's end", Tell.on(grid(3, 2), 0, 1), "4@3 13");
        begins("a MUST with one ON", Tell.on(Tell.must(grid(5, 5), 24), 39), "4@24 93");
        begins("first place", Tell.must(grid(3, 3), 8, 0), "4@0 1 3");
    }

    private static void forcedNeedsJustTwo() {
        CHECK.sentence("4 FORCED: .. with two edges that are not OFF, some of them OPEN");
        whole("a MUST with three", Tell.must(grid(5, 5), 2), "");
        whole("a MUST with four", Tell.must(grid(5, 5), 12), "");
        whole("one ON, two OPEN", Tell.off(Tell.on(grid(5, 5), 22), 25, 23), "");
        whole("none of two OPEN", Tell.must(Tell.on(grid(2, 2), 0, 1, 3, 4), 0, 1, 2, 3), "");
        whole("free, two OPEN", grid(3, 3), "");
    }

    private static void closed() {
        CHECK.sentence("5 CLOSED: .. when an edge that is not of it is ON, or a MUST is not on it: WRONG, at the cell");
        whole("another edge ON", Tell.on(grid(5, 2), 0, 1, 3, 10, 7), "2@1 4 | 2@6 24 | 5@0");
        whole("a MUST elsewhere", Tell.must(Tell.on(grid(5, 2), 0, 1, 3, 10), 3), "2@1 4 | 2@6 24 | 5@0");
        whole("two loops", Tell.on(grid(4, 2), 0, 1, 3, 8, 4, 5, 7, 12), "2@1 4 | 2@5 20 | 5@0");
        whole("the loop behind a path", Tell.on(grid(6, 2), 12, 1, 6, 7, 9, 18),
            "2@3 8 | 2@4 16 | 2@9 32 | 2@10 40 | 3@5 22 | 4@0 1 | 5@3");
        LoopRegions ring = Tell.on(grid(5, 5), 0, 2, 4, 6, 1, 11, 21, 31, 9, 19, 29, 39, 40, 42, 44, 46);
        whole("a MUST within the loop", Tell.must(ring, 12),
            "2@1 6 | 2@2 10 | 2@3 14 | 2@5 20 | 2@9 32 | 2@10 40 | 2@14 52 | 2@15 60 | 2@19 72 | 2@21 66 | 2@22 70"
                + " | 2@23 74 | 5@0");
    }

    private static void closedWithNothingElse() {
        CHECK.sentence("5 CLOSED: .. when an edge that is not of it is ON, or a MUST is not on it");
        whole("a loop alone", Tell.on(grid(2, 2), 0, 1, 3, 4), "");
        whole("a MUST on it", Tell.must(Tell.on(grid(2, 2), 0, 1, 3, 4), 3), "");
        whole("a loop over all cells", Tell.must(Tell.on(grid(2, 3), 0, 1, 3, 5, 7, 8), 0, 5), "2@2 8");
    }

    private static void early() {
        CHECK.sentence("6 EARLY: an OPEN edge between the two ends of a path of edges that are ON: it is OFF");
        begins("another edge ON", Tell.on(grid(5, 2), 0, 1, 10, 7), "6@3 6 | 4@1 5");
        begins("a MUST elsewhere", Tell.must(Tell.on(grid(5, 2), 0, 1, 10), 3), "6@3 6 | 4@1 5");
        begins("between rows", Tell.must(Tell.on(grid(5, 5), 25, 24, 27), 4), "2@12 30 44 | 2@13 34 52 | 4@4 19 13 | 6@34 68");
    }

    private static void earlyWithNothingElse() {
        CHECK.sentence("6 EARLY: .. when an edge that is not of the path is ON, or a MUST is not on it");
        whole("nothing else", Tell.on(grid(3, 2), 0, 1, 6), "");
        whole("a MUST on the path", Tell.must(Tell.on(grid(3, 2), 0, 1, 6), 3), "");
        whole("a MUST at its end", Tell.must(Tell.on(grid(3, 2), 0, 1, 6), 4), "");
        whole("ends of two paths", Tell.on(grid(5, 5), 22, 26), "");
        whole("an end and a cell of no path", Tell.must(Tell.on(grid(5, 5), 22), 23), "");
    }

    // A border at the rim never comes to be a step: what it says of its last edge, steps 1 to 4 have said before.
    private static void borderNumbers() {
        CHECK.sentence("7 BORDER: BORDER b for b = 0 .. W - 2 .., b = W - 1 .. W + H - 3 ..");
        whole("between columns 1 and 2", Tell.off(grid(8, 8), 2, 18, 34, 50, 66, 82, 98), "7@1 228");
        whole("between columns 5 and 6", Tell.off(grid(8, 8), 26, 42, 58, 74, 90, 106, 122), "7@5 20");
        whole("between rows 1 and 2", Tell.off(grid(8, 8), 17, 19, 21, 23, 25, 27, 29), "7@8 62");
        whole("between rows 5 and 6", Tell.off(grid(8, 8), 83, 85, 87, 89, 91, 93, 95), "7@12 162");
        whole("between columns 1 and 2 of 4", Tell.off(grid(4, 4), 2, 10, 18), "7@1 52");
        whole("between rows 1 and 2 of 4", Tell.off(grid(4, 4), 9, 11, 13), "7@4 30");
        whole("wide", Tell.off(grid(8, 4), 17, 19, 21, 23, 25, 27, 29), "7@8 62");
        whole("high", Tell.off(grid(4, 8), 41, 43, 45), "7@8 94");
    }

    private static void borderOdd() {
        CHECK.sentence("7 BORDER: .. A border without OPEN edges and an odd number ON: WRONG, at the border");
        whole("one ON", Tell.off(Tell.on(grid(4, 4), 18), 2, 10, 26), "7@1");
        whole("one ON between rows", Tell.off(Tell.on(grid(4, 4), 11), 9, 13, 15), "7@4");
        whole("two ON", Tell.off(Tell.on(grid(4, 4), 10, 18), 2, 26), "");
        whole("none ON", Tell.off(grid(4, 4), 2, 10, 18, 26), "");
        whole("three ON", Tell.off(Tell.on(grid(5, 5), 2, 22, 32), 12, 42), "7@1");
    }

    private static void borderJustOneOpen() {
        CHECK.sentence("7 BORDER: .. With just one OPEN: that is ON when an odd number is ON, else OFF");
        begins("one ON", Tell.off(Tell.on(grid(4, 4), 18), 2, 10), "7@1 53");
        whole("none ON", Tell.off(grid(4, 4), 2, 10, 18), "7@1 52");
        begins("two ON", Tell.off(Tell.on(grid(5, 5), 12, 22), 2, 32), "7@1 84");
        begins("three ON", Tell.off(Tell.on(grid(5, 5), 2, 22, 42), 12), "7@1 65");
        whole("two OPEN", Tell.off(Tell.on(grid(4, 4), 18), 10), "");
    }

    private static void borderByBorder() {
        CHECK.sentence("7 BORDER: .. (For each border first the one, then the other.)");
        whole("one OPEN before WRONG", Tell.off(Tell.on(grid(6, 4), 30), 2, 14, 26, 6, 18, 42), "7@1 76 | 7@3");
        whole("WRONG before one OPEN", Tell.off(Tell.on(grid(6, 4), 26), 2, 14, 38, 6, 18, 30), "7@1");
    }

    private static void bridge() {
        CHECK.sentence("8 BRIDGE: .. it is OFF when it is OPEN; when it is ON: WRONG, at the edge");
        whole("OPEN", Tell.off(grid(4, 4), 2, 10, 9), "8@11 22");
        whole("ON", Tell.on(Tell.off(grid(4, 4), 2, 10, 9), 11), "8@11");
        whole("no bridge as long as there is another way", Tell.off(grid(4, 4), 2, 9), "");
        whole("nor in a ring", Tell.off(grid(3, 3), 3, 6, 8, 9), "");
    }

    private static void apart() {
        CHECK.sentence("9 APART: a cell that the loop needs that is not in the part of the least such cell: WRONG, at the cell");
        whole("two parts", Tell.must(Tell.off(grid(4, 4), 9, 11, 13, 15), 1, 13), "9@13");
        whole("a path in another part", Tell.on(Tell.must(Tell.off(grid(4, 4), 9, 11, 13, 15), 1), 26), "9@13");
        whole("the first of several", Tell.must(Tell.off(grid(4, 4), 9, 11, 13, 15), 1, 14, 13), "9@13");
        CHECK.sentence("9 APART: .. Otherwise, .. an OPEN edge whose cells are not in its part: it is OFF");
        begins("the other part", Tell.must(Tell.off(grid(4, 4), 9, 11, 13, 15), 1), "9@16 32");
        begins("the part of edges with less numbers", Tell.must(Tell.off(grid(4, 4), 9, 11, 13, 15), 13), "9@0 0");
        whole("a whole loop", Tell.on(grid(5, 2), 0, 1, 3, 10),
            "2@1 4 | 2@6 24 | 9@4 8 | 3@2 10 | 3@7 28 | 9@6 12 | 3@3 14 | 3@4 18 | 3@8 32");
        whole("the parts on both sides", Tell.must(Tell.off(grid(2, 6), 5, 7, 13, 15), 4),
            "4@4 17 19 | 4@5 23 | 4@6 25 | 9@0 0 | 3@0 2 | 3@1 6 | 3@2 8 | 9@16 32 | 3@8 34 | 3@9 38 | 3@10 40");
        CHECK.sentence("in 9 and 11 first all cells for what is WRONG");
        whole("WRONG before a lesser edge", Tell.must(Tell.off(grid(4, 6), 9, 11, 13, 15, 25, 27, 29, 31), 9, 21), "9@21");
    }

    private static void apartWithNoneNeeded() {
        CHECK.sentence("9 APART: .. when there is a cell that it needs");
        whole("none is needed", Tell.off(grid(4, 4), 9, 11, 13, 15), "");
        whole("a BARRED one is not needed", Tell.off(Tell.barred(grid(4, 4), 0), 9, 11, 13, 15), "2@0 0 2 | 3@4 16");
    }

    private static void manyNotTold() {
        CHECK.sentence("10 MANY (only when TOLD is not -1)");
        whole("not told", Tell.white(Tell.black(grid(2, 2), 0, 1), 2), "");
        whole("not told, none black", Tell.white(grid(2, 2), 0, 1, 2), "");
        whole("told no more", Tell.told(Tell.told(grid(2, 2), 0), -1), "");
        whole("told 0", Tell.told(grid(2, 2), 0), "10@0 0 2 4 6");
    }

    private static void manyWrong() {
        CHECK.sentence("10 MANY: more than TOLD are black, or fewer than that are not white: WRONG, at 0");
        whole("one black too many", Tell.told(Tell.black(grid(2, 2), 0, 1), 1), "10@0");
        whole("one black when 0 are told", Tell.told(Tell.black(grid(2, 2), 3), 0), "10@0");
        whole("all black, one too many", Tell.told(Tell.black(grid(2, 2), 0, 1, 2, 3), 3), "10@0");
        whole("one too few not white", Tell.told(Tell.white(grid(2, 2), 0, 1), 3), "10@0");
        whole("all white, 1 is told", Tell.told(Tell.white(grid(2, 2), 0, 1, 2, 3), 1), "10@0");
        whole("one more than there are", Tell.told(grid(2, 2), 5), "10@0");
        whole("64 in 7 by 8", Tell.told(grid(7, 8), 64), "10@0");
    }

    private static void manyJust() {
        CHECK.sentence("10 MANY: .. when some are open: just TOLD are black: all that are open are white; "
            + "just TOLD are not white: all that are open are black. At 0");
        whole("none is black", Tell.told(grid(2, 2), 0), "10@0 0 2 4 6");
        whole("all are black", Tell.told(grid(2, 2), 4), "10@0 1 3 5 7");
        whole("the rest is white", Tell.told(Tell.black(grid(2, 2), 1), 1), "10@0 0 4 6");
        whole("the rest is black", Tell.told(Tell.white(grid(2, 2), 1), 3), "10@0 1 5 7");
        whole("the last is white", Tell.told(Tell.black(grid(2, 2), 0, 1, 2), 3), "10@0 6");
        whole("the last is black", Tell.told(Tell.white(grid(2, 2), 0, 1, 2), 1), "10@0 7");
        whole("neither", Tell.told(Tell.black(grid(2, 2), 0), 2), "");
        whole("none open", Tell.told(Tell.white(Tell.black(grid(2, 2), 0, 1), 2, 3), 2), "");
        whole("none open, all black", Tell.told(Tell.black(grid(2, 2), 0, 1, 2, 3), 4), "");
        whole("none open, all white", Tell.told(Tell.white(grid(2, 2), 0, 1, 2, 3), 0), "");
        whole("the only cell is white", Tell.told(grid(1, 1), 0), "10@0 0");
        whole("the only cell is black", Tell.told(grid(1, 1), 1), "10@0 1");
    }

    private static void parts() {
        CHECK.sentence("11 PARTS: a black cell that is not in the part (by shades) of the least black cell: WRONG, at the cell");
        whole("two parts", Tell.black(Tell.white(grid(3, 3), 3, 4, 5), 0, 8), "11@8");
        whole("the first of several", Tell.black(Tell.white(grid(3, 3), 3, 4, 5), 0, 8, 7), "11@7");
        CHECK.sentence("11 PARTS: .. an open cell that is not in its part: it is white");
        whole("the other part", Tell.black(Tell.white(grid(3, 3), 3, 4, 5), 0), "11@6 12 | 11@7 14 | 11@8 16");
        whole("the part of lesser cells", Tell.black(Tell.white(grid(3, 3), 3, 4, 5), 8), "11@0 0 | 11@1 2 | 11@2 4");
        CHECK.sentence("in 9 and 11 first all cells for what is WRONG");
        whole("WRONG before a lesser open cell", Tell.black(Tell.white(grid(3, 3), 1, 3, 4, 5), 8, 2), "11@8");
    }

    private static void partsWithNoneBlack() {
        CHECK.sentence("11 PARTS: .. when there is a black one");
        whole("none is black", Tell.white(grid(3, 3), 3, 4, 5), "");
        whole("all are white", Tell.white(grid(2, 2), 0, 1, 2, 3), "");
        whole("all are black", Tell.black(grid(2, 2), 0, 1, 2, 3), "");
    }

    private static void cut() {
        CHECK.sentence("12 CUT: an open cell without which two black cells would not be in one part (by shades): it is black");
        whole("the only way", Tell.white(Tell.black(grid(4, 4), 0, 15), 1, 5), "12@4 9 | 12@8 17");
        whole("in a line", Tell.black(grid(3, 1), 0, 2), "3@0 0 | 3@1 4 | 12@1 3");
        whole("in the longest line", Tell.black(Tell.off(grid(1, 8), 1, 3, 5, 7, 9, 11, 13), 0, 7),
            "12@1 3 | 12@2 5 | 12@3 7 | 12@4 9 | 12@5 11 | 12@6 13");
        whole("no way over the rim", Tell.black(Tell.white(grid(3, 2), 1, 4), 2), "11@0 0 | 11@3 6");
    }

    private static void cutNeedsTwoBlack() {
        CHECK.sentence("12 CUT: .. two black cells");
        whole("one black", Tell.white(Tell.black(grid(4, 4), 0), 1), "");
        whole("none black", Tell.white(grid(4, 4), 1, 5), "");
        whole("two, with two ways", Tell.black(grid(2, 2), 0, 3), "");
        whole("two side by side", Tell.white(Tell.black(grid(4, 4), 0, 4), 1, 5), "");
    }

    private static void firstStepFirst() {
        CHECK.sentence("as long as there is one, the first of these steps");
        whole("edges before shades", Tell.told(Tell.barred(grid(2, 2), 0), 4), "2@0 0 2 | 3@1 6 | 3@2 8 | 10@0 1 3 5 7");
        whole("FULL at a greater place before ALONE", Tell.barred(Tell.off(grid(3, 3), 0), 8), "2@8 22 28 | 3@0 2");
        whole("BORDER before BRIDGE", Tell.off(grid(4, 4), 2, 10, 18, 9), "7@1 52 | 8@11 22");
        LoopRegions path = Tell.must(Tell.on(grid(8, 8), 36, 37, 39), 33);
        begins("EARLY before BORDER", Tell.off(path, 26, 42, 58, 74, 90, 106, 122),
            "2@18 42 68 | 2@19 46 76 | 6@52 104 | 7@5 20");
        begins("BRIDGE before APART", Tell.off(Tell.must(grid(4, 8), 1), 25, 27, 29, 31, 34, 42, 41), "8@43 86 | 9@32 64");
        whole("APART before MANY", Tell.told(Tell.must(Tell.off(grid(4, 4), 9, 11, 13, 15), 1, 13), 17), "9@13");
        whole("MANY before PARTS", Tell.told(Tell.black(Tell.white(grid(3, 3), 3, 4, 5), 0, 8), 1), "10@0");
        whole("PARTS before CUT", Tell.black(Tell.white(grid(3, 3), 3, 4, 5), 0, 2),
            "11@6 12 | 11@7 14 | 11@8 16 | 12@1 3");
        whole("a WRONG one is the last", Tell.told(Tell.must(grid(1, 1), 0), 1), "1@0");
    }

    private static void firstPlaceFirst() {
        CHECK.sentence("at its first place; PLACES are looked at by their numbers");
        begins("the first cell is 0", Tell.barred(grid(8, 8), 63, 0), "2@0 0 2 | 2@63 222 248");
        begins("the last cell is 63", Tell.must(grid(8, 8), 63), "4@63 223 249");
        whole("edges by numbers, not by kind", Tell.must(Tell.off(grid(4, 4), 9, 11, 13, 15), 13),
            "9@0 0 | 3@0 2 | 3@4 16 | 9@2 4 | 3@1 6 | 3@5 20 | 9@4 8 | 3@2 10 | 3@3 14 | 3@6 24");
    }
}
