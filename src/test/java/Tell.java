/** Objects to test with, told what is wanted, and what there is to see of them. */
final class Tell {
    static final int MIN = Integer.MIN_VALUE;
    static final int MAX = Integer.MAX_VALUE;

    /** No edge of a 3 by 3 grid: below 0, at the rim, too large, and such as a wrap-around would take for edge 0 or 1. */
    static final int[] NO_EDGES_OF_3_BY_3 = {-1, -2, -128, -127, 4, 10, 13, 15, 16, 17, 18, 19, 128, 129, 256, MIN, MAX};

    /** No cell of a 3 by 3 grid, in the same way. */
    static final int[] NO_CELLS_OF_3_BY_3 = {-1, -64, 9, 10, 63, 64, 128, MIN, MAX};

    private Tell() {
    }

    static LoopRegions grid(int w, int h) {
        return new LoopRegions(w, h);
    }

    static LoopRegions on(LoopRegions x, int... edges) {
        for (int e : edges) {
            need("edge(" + e + ", true)", x.edge(e, true));
        }
        return x;
    }

    static LoopRegions off(LoopRegions x, int... edges) {
        for (int e : edges) {
            need("edge(" + e + ", false)", x.edge(e, false));
        }
        return x;
    }

    static LoopRegions must(LoopRegions x, int... cells) {
        for (int c : cells) {
            need("duty(" + c + ", 1)", x.duty(c, 1));
        }
        return x;
    }

    static LoopRegions barred(LoopRegions x, int... cells) {
        for (int c : cells) {
            need("duty(" + c + ", 2)", x.duty(c, 2));
        }
        return x;
    }

    static LoopRegions black(LoopRegions x, int... cells) {
        for (int c : cells) {
            need("shade(" + c + ", true)", x.shade(c, true));
        }
        return x;
    }

    static LoopRegions white(LoopRegions x, int... cells) {
        for (int c : cells) {
            need("shade(" + c + ", false)", x.shade(c, false));
        }
        return x;
    }

    static LoopRegions told(LoopRegions x, int n) {
        x.told(n);
        return x;
    }

    static LoopRegions ran(LoopRegions x) {
        x.run();
        return x;
    }

    /** An object that is WRONG, by its only step. */
    static LoopRegions wrong() {
        LoopRegions x = ran(must(off(grid(3, 3), 0), 0));
        need("wrong()", x.wrong());
        return x;
    }

    private static void need(String call, boolean answer) {
        if (!answer) {
            throw new IllegalStateException(call + " answered false");
        }
    }

    /** The steps, each as number@place and what it changed; one that changed nothing is WRONG. */
    static String log(LoopRegions x) {
        StringBuilder text = new StringBuilder();
        for (int k = 0; k < x.steps(); k++) {
            text.append(k == 0 ? "" : " | ").append(x.step(k, 0)).append('@').append(x.step(k, 1));
            for (int i = 0; i < x.step(k, 2); i++) {
                text.append(' ').append(x.step(k, 3 + i));
            }
        }
        return text.toString();
    }

    /** All that can be asked without a change. */
    static String all(LoopRegions x) {
        StringBuilder text = new StringBuilder(log(x));
        for (int i = 0; i < 2 * x.size(); i++) {
            int e = i;
            Object is = Check.outcome(() -> x.is(e));
            if (is instanceof Integer) {
                text.append(" e").append(e).append(':').append(is).append(',').append(x.reason(e));
            }
        }
        for (int c = 0; c < x.size(); c++) {
            text.append(" c").append(c);
            for (int what = 0; what < 5; what++) {
                text.append(what == 0 ? ':' : ',').append(x.cell(c, what));
            }
        }
        return text.append(' ').append(x.wrong()).append(' ').append(x.steps()).toString();
    }
}
