/**
 * Each of the twelve steps by hand. A log is written as the document's step() tells it: number@place, then what was
 * changed; a step that changed nothing is WRONG.
 */
public final class StepsTest {
    private static final Check CHECK = new Check();

    public static void main(String[] args) {
        cell();
        full();
        alone();
        forced();
        closed();
        early();
        border();
        bridge();
        apart();
        many();
        parts();
        cut();
        order();
        CHECK.end();
    }

    private static LoopRegions on(LoopRegions x, int... edges) {
        for (int e : edges) {
            CHECK.due("edge(" + e + ", true)", x.edge(e, true), true);
        }
        return x;
    }

    private static LoopRegions off(LoopRegions x, int... edges) {
        for (int e : edges) {
            CHECK.due("edge(" + e + ", false)", x.edge(e, false), true);
        }
        return x;
    }

    private static LoopRegions must(LoopRegions x, int... cells) {
        for (int c : cells) {
            CHECK.due("duty(" + c + ", 1)", x.duty(c, 1), true);
        }
        return x;
    }

    private static LoopRegions barred(LoopRegions x, int... cells) {
        for (int c : cells) {
            CHECK.due("duty(" + c + ", 2)", x.duty(c, 2), true);
        }
        return x;
    }

    private static LoopRegions black(LoopRegions x, int... cells) {
        for (int c : cells) {
            CHECK.due("shade(" + c + ", true)", x.shade(c, true), true);
        }
        return x;
    }

    private static LoopRegions white(LoopRegions x, int... cells) {
        for (int c : cells) {
            CHECK.due("shade(" + c + ", false)", x.shade(c, false), true);
        }
        return x;
    }

    private static LoopRegions told(LoopRegions x, int n) {
        x.told(n);
        return x;
    }

    private static String log(LoopRegions x) {
        StringBuilder text = new StringBuilder();
        for (int k = 0; k < x.steps(); k++) {
            text.append(k == 0 ? "" : " | ").append(x.step(k, 0)).append('@').append(x.step(k, 1));
            for (int i = 0; i < x.step(k, 2); i++) {
                text.append(' ').append(x.step(k, 3 + i));
            }
        }
        return text.toString();
    }

    /** The whole log of a run on a fresh object. */
    private static void whole(String name, LoopRegions x, String want) {
        int done = x.run();
        CHECK.due(name, log(x), want);
        CHECK.due(name + ": run()", done, x.steps());
        boolean lastIsWrong = done > 0 && x.step(done - 1, 2) == 0;
        CHECK.due(name + ": wrong()", x.wrong(), lastIsWrong);
    }

    private static void begins(String name, LoopRegions x, String want) {
        x.run();
        String got = log(x);
        CHECK.due(name, (got + " |").startsWith(want + " |") ? want : got, want);
    }

    private static LoopRegions grid(int w, int h) {
        return new LoopRegions(w, h);
    }

    private static void cell() {
        whole("three ON", on(grid(3, 3), 3, 8, 9), "1@4");
        whole("four ON", on(grid(3, 3), 3, 6, 8, 9), "1@4");
        whole("BARRED with one ON", on(barred(grid(3, 3), 4), 6), "1@4");
        whole("a MUST alone", must(grid(1, 1), 0), "1@0");
        whole("a MUST with one edge", must(off(grid(3, 3), 0), 0), "1@0");
        whole("one ON and no more edge", on(grid(2, 1), 0), "1@0");
        whole("the first of two", on(barred(must(off(grid(3, 3), 14), 8), 4), 6), "1@4");
    }

    private static void full() {
        begins("two ON", on(grid(3, 3), 6, 8), "2@4 6 18");
        begins("BARRED", barred(grid(3, 3), 4), "2@4 6 16 18 12");
        begins("BARRED, some OFF", off(barred(grid(3, 3), 4), 8), "2@4 6 18 12");
        begins("first place", barred(grid(3, 3), 4, 2), "2@2 10 4 | 2@4 6 16 18 12");
    }

    private static void alone() {
        whole("a line of cells", grid(1, 5), "3@0 2 | 3@1 6 | 3@2 10 | 3@3 14");
        whole("a line across", grid(4, 1), "3@0 0 | 3@1 4 | 3@2 8");
    }

    private static void forced() {
        whole("a MUST in a corner", must(grid(2, 2), 3), "4@3 7 9 | 4@1 1 | 4@0 3");
        whole("a path's end", on(grid(3, 2), 0, 1), "4@3 13");
        begins("first place", must(grid(3, 3), 8, 0), "4@0 1 3");
    }

    private static void closed() {
        whole("another edge ON", on(grid(5, 2), 0, 1, 3, 10, 7), "2@1 4 | 2@6 24 | 5@0");
        whole("a MUST elsewhere", must(on(grid(5, 2), 0, 1, 3, 10), 3), "2@1 4 | 2@6 24 | 5@0");
        whole("a MUST on it", must(on(grid(2, 2), 0, 1, 3, 4), 3), "");
        whole("two loops", on(grid(4, 2), 0, 1, 3, 8, 4, 5, 7, 12), "2@1 4 | 2@5 20 | 5@0");
        whole("the loop behind a path", on(grid(6, 2), 12, 1, 6, 7, 9, 18),
            "2@3 8 | 2@4 16 | 2@9 32 | 2@10 40 | 3@5 22 | 4@0 1 | 5@3");
    }

    private static void early() {
        begins("another edge ON", on(grid(5, 2), 0, 1, 10, 7), "6@3 6 | 4@1 5");
        begins("a MUST elsewhere", must(on(grid(5, 2), 0, 1, 10), 3), "6@3 6 | 4@1 5");
        whole("ends of two paths", on(grid(5, 5), 22, 26), "");
        whole("nothing else", on(grid(3, 2), 0, 1, 6), "");
        whole("a MUST on the path", must(on(grid(3, 2), 0, 1, 6), 3), "");
    }

    private static void border() {
        begins("one OPEN, odd", off(on(grid(4, 4), 18), 2, 10), "7@1 53");
        whole("one OPEN, even", off(grid(4, 4), 2, 10, 18), "7@1 52");
        whole("none OPEN, odd", off(on(grid(4, 4), 18), 2, 10, 26), "7@1");
        whole("one OPEN between rows", off(grid(4, 4), 9, 11, 13), "7@4 30");
        whole("odd between rows", off(on(grid(4, 4), 11), 9, 13, 15), "7@4");
        whole("border by border", off(on(grid(6, 4), 30), 2, 14, 26, 6, 18, 42), "7@1 76 | 7@3");
    }

    private static void bridge() {
        whole("OPEN", off(grid(4, 4), 2, 10, 9), "8@11 22");
        whole("ON", on(off(grid(4, 4), 2, 10, 9), 11), "8@11");
    }

    private static void apart() {
        whole("two parts", must(off(grid(4, 4), 9, 11, 13, 15), 1, 13), "9@13");
        whole("a path in another part", on(must(off(grid(4, 4), 9, 11, 13, 15), 1), 26), "9@13");
        begins("the other part", must(off(grid(4, 4), 9, 11, 13, 15), 1), "9@16 32");
        whole("none is needed", off(grid(4, 4), 9, 11, 13, 15), "");
        whole("a whole loop", on(grid(5, 2), 0, 1, 3, 10),
            "2@1 4 | 2@6 24 | 9@4 8 | 3@2 10 | 3@7 28 | 9@6 12 | 3@3 14 | 3@4 18 | 3@8 32");
    }

    private static void many() {
        whole("none is black", told(grid(2, 2), 0), "10@0 0 2 4 6");
        whole("all are black", told(grid(2, 2), 4), "10@0 1 3 5 7");
        whole("the rest is white", told(black(grid(2, 2), 1), 1), "10@0 0 4 6");
        whole("the rest is black", told(white(grid(2, 2), 1), 3), "10@0 1 5 7");
        whole("too many black", told(black(grid(2, 2), 0, 1), 1), "10@0");
        whole("too few not white", told(white(grid(2, 2), 0, 1), 3), "10@0");
        whole("more than there are", told(grid(2, 2), 5), "10@0");
        whole("all known", told(white(black(grid(2, 2), 0, 1), 2, 3), 2), "");
        whole("not told", white(black(grid(2, 2), 0, 1), 2), "");
        LoopRegions x = told(grid(8, 8), 64);
        CHECK.due("64 cells: run()", x.run(), 1);
        CHECK.due("64 cells: how many", x.step(0, 2), 64);
        CHECK.due("64 cells: the last", x.step(0, 66), 127);
        CHECK.due("64 cells: behind", x.step(0, 67), -1);
    }

    private static void parts() {
        whole("two parts", black(white(grid(3, 3), 3, 4, 5), 0, 8), "11@8");
        whole("the other part", black(white(grid(3, 3), 3, 4, 5), 0), "11@6 12 | 11@7 14 | 11@8 16");
        whole("WRONG comes first", black(white(grid(3, 3), 1, 3, 4, 5), 8, 2), "11@8");
        whole("none is black", white(grid(3, 3), 3, 4, 5), "");
    }

    private static void cut() {
        whole("the only way", white(black(grid(4, 4), 0, 15), 1, 5), "12@4 9 | 12@8 17");
        whole("in a line", black(grid(3, 1), 0, 2), "3@0 0 | 3@1 4 | 12@1 3");
        whole("no wrap from row to row", black(white(grid(3, 2), 1, 4), 2), "11@0 0 | 11@3 6");
        whole("one black", white(black(grid(4, 4), 0), 1), "");
    }

    private static void order() {
        whole("edges before shades", told(barred(grid(2, 2), 0), 4),
            "2@0 0 2 | 3@1 6 | 3@2 8 | 10@0 1 3 5 7");
        whole("APART before MANY", told(must(off(grid(4, 4), 9, 11, 13, 15), 1, 13), 17), "9@13");
        whole("MANY before PARTS", told(black(white(grid(3, 3), 3, 4, 5), 0, 8), 1), "10@0");
        whole("WRONG is the last", told(must(grid(1, 1), 0), 1), "1@0");
    }
}
