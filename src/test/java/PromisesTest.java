/** Each promise by hand: ordinary inputs, the edges that the document names, and wrong inputs. */
public final class PromisesTest {
    private static final Check CHECK = new Check();
    private static final int MIN = Integer.MIN_VALUE;
    private static final int MAX = Integer.MAX_VALUE;
    private static final Class<ArrayIndexOutOfBoundsException> NO_INDEX = ArrayIndexOutOfBoundsException.class;
    private static final Class<IllegalArgumentException> NO_ARGUMENT = IllegalArgumentException.class;
    private static final Class<IndexOutOfBoundsException> NO_STEP = IndexOutOfBoundsException.class;

    public static void main(String[] args) {
        newObject();
        end();
        edge();
        duty();
        shade();
        told();
        run();
        wrong();
        step();
        steps();
        is();
        cell();
        reason();
        mark();
        back();
        backLeadsToAllThatWas();
        manyCalls();
        CHECK.end();
    }

    private static void due(String call, Object got, Object want) {
        CHECK.due(call, got, want);
    }

    // Promises 1 and 2.
    private static void newObject() {
        int[][] sides = {{1, 1, 1}, {8, 8, 64}, {3, 2, 6}, {0, 0, 1}, {-1, 5, 5}, {5, -7, 5}, {9, 1, 8}, {1, 9, 8},
            {100, 100, 64}, {MIN, MAX, 8}, {MAX, MIN, 8}};
        for (int[] side : sides) {
            due("size() of " + side[0] + ", " + side[1], new LoopRegions(side[0], side[1]).size(), side[2]);
        }
        LoopRegions x = new LoopRegions(9, 9);
        due("run()", x.run(), 0);
        due("steps()", x.steps(), 0);
        due("wrong()", x.wrong(), false);
        for (int c = 0; c < 64; c++) {
            due("cell(" + c + ", 0)", x.cell(c, 0), 0);
            due("cell(" + c + ", 1)", x.cell(c, 1), 0);
            due("cell(" + c + ", 4)", x.cell(c, 4), -1);
        }
        LoopRegions wide = new LoopRegions(12, -3);
        due("end(12, true) of 8 by 1", wide.end(12, true), 7);
        CHECK.dueThrow("end(14, true) of 8 by 1", () -> wide.end(14, true), NO_INDEX);
        CHECK.dueThrow("end(1, true) of 8 by 1", () -> wide.end(1, true), NO_INDEX);
    }

    // Promise 3.
    private static void end() {
        LoopRegions x = new LoopRegions(3, 2);
        int[][] ends = {{0, 0, 1}, {1, 0, 3}, {2, 1, 2}, {3, 1, 4}, {5, 2, 5}, {6, 3, 4}, {8, 4, 5}};
        for (int[] e : ends) {
            due("end(" + e[0] + ", false)", x.end(e[0], false), e[1]);
            due("end(" + e[0] + ", true)", x.end(e[0], true), e[2]);
        }
        for (int e : new int[] {-1, -2, 4, 7, 9, 10, 11, 12, 13, 128, 129, MIN, MAX}) {
            CHECK.dueThrow("end(" + e + ", false)", () -> x.end(e, false), NO_INDEX);
            CHECK.dueThrow("end(" + e + ", true)", () -> x.end(e, true), NO_INDEX);
            CHECK.dueThrow("edge(" + e + ", true)", () -> x.edge(e, true), NO_INDEX);
            CHECK.dueThrow("is(" + e + ")", () -> x.is(e), NO_INDEX);
            CHECK.dueThrow("reason(" + e + ")", () -> x.reason(e), NO_INDEX);
        }
        LoopRegions big = new LoopRegions(8, 8);
        due("end(124, true)", big.end(124, true), 63);
        due("end(111, true)", big.end(111, true), 63);
        CHECK.dueThrow("end(126, true)", () -> big.end(126, true), NO_INDEX);
        CHECK.dueThrow("end(127, true)", () -> big.end(127, true), NO_INDEX);
    }

    // Promise 4.
    private static void edge() {
        LoopRegions x = new LoopRegions(3, 3);
        due("edge(0, true)", x.edge(0, true), true);
        due("edge(0, true) again", x.edge(0, true), false);
        due("edge(0, false) when ON", x.edge(0, false), false);
        due("is(0)", x.is(0), 1);
        due("edge(1, false)", x.edge(1, false), true);
        due("edge(1, true) when OFF", x.edge(1, true), false);
        due("is(1)", x.is(1), 2);
        due("is(2)", x.is(2), 0);
    }

    // Promise 5.
    private static void duty() {
        LoopRegions x = new LoopRegions(3, 3);
        due("duty(4, 0) at first", x.duty(4, 0), false);
        for (int d : new int[] {1, 2, 1, 0, 2, 0}) {
            due("duty(4, " + d + ")", x.duty(4, d), true);
            due("cell(4, 1)", x.cell(4, 1), d);
            due("duty(4, " + d + ") again", x.duty(4, d), false);
        }
        due("duty(8, 1)", x.duty(8, 1), true);
        for (int c : new int[] {-1, 9, 64, MIN, MAX}) {
            CHECK.dueThrow("duty(" + c + ", 1)", () -> x.duty(c, 1), NO_INDEX);
            CHECK.dueThrow("duty(" + c + ", 3)", () -> x.duty(c, 3), NO_INDEX);
        }
        for (int d : new int[] {-1, 3, MIN, MAX}) {
            CHECK.dueThrow("duty(0, " + d + ")", () -> x.duty(0, d), NO_ARGUMENT);
        }
        due("cell(0, 1)", x.cell(0, 1), 0);
    }

    // Promise 6.
    private static void shade() {
        LoopRegions x = new LoopRegions(3, 3);
        due("shade(0, true)", x.shade(0, true), true);
        due("shade(0, true) again", x.shade(0, true), false);
        due("shade(0, false) when black", x.shade(0, false), false);
        due("cell(0, 0)", x.cell(0, 0), 1);
        due("shade(8, false)", x.shade(8, false), true);
        due("shade(8, true) when white", x.shade(8, true), false);
        due("cell(8, 0)", x.cell(8, 0), 2);
        for (int c : new int[] {-1, 9, 64, MIN, MAX}) {
            CHECK.dueThrow("shade(" + c + ", true)", () -> x.shade(c, true), NO_INDEX);
        }
    }

    // Promise 7.
    private static void told() {
        LoopRegions x = new LoopRegions(2, 2);
        for (int n : new int[] {-2, 65, MIN, MAX}) {
            CHECK.dueThrow("told(" + n + ")", () -> { x.told(n); return 0; }, NO_ARGUMENT);
        }
        due("run() when nothing is told", x.run(), 0);
        x.told(64);
        due("run() when 64 are told", x.run(), 1);
        due("wrong()", x.wrong(), true);
        CHECK.dueThrow("told(65)", () -> { x.told(65); return 0; }, NO_ARGUMENT);
        due("wrong() when told() has thrown", x.wrong(), true);
        x.told(-1);
        due("run() when it is told no more", x.run(), 0);
        x.told(0);
        due("run() when none is black", x.run(), 1);
        due("cell(3, 0)", x.cell(3, 0), 2);
    }

    // Promise 8.
    private static void run() {
        LoopRegions x = new LoopRegions(1, 5);
        due("run()", x.run(), 4);
        due("run() again", x.run(), 0);
        x.duty(2, 1);
        due("run() that is WRONG", x.run(), 1);
        due("run() behind it", x.run(), 0);
        x.shade(0, true);
        due("run() when something is told", x.run(), 1);
        due("steps()", x.steps(), 6);
        due("duty(2, 1), as it is", x.duty(2, 1), false);
        due("shade(0, true), as it is", x.shade(0, true), false);
        due("edge(1, true), which is OFF", x.edge(1, true), false);
        due("run() when nothing came of it", x.run(), 0);
        x.told(-1);
        due("run() when TOLD is told", x.run(), 1);
        x.duty(2, 0);
        due("run() when all is well", x.run(), 0);
    }

    // Promise 9.
    private static void wrong() {
        LoopRegions x = new LoopRegions(2, 2);
        x.duty(0, 1);
        x.edge(0, false);
        due("wrong() before run()", x.wrong(), false);
        x.run();
        due("wrong()", x.wrong(), true);
        due("step(0, 2)", x.step(0, 2), 0);
        x.duty(0, 1);
        due("wrong() when nothing new is told", x.wrong(), true);
        x.duty(0, 0);
        due("wrong() when something is told", x.wrong(), false);
        x.run();
        due("wrong() when all is well", x.wrong(), false);
    }

    // Promise 10.
    private static void step() {
        LoopRegions x = new LoopRegions(3, 3);
        CHECK.dueThrow("step(0, 0) before any", () -> x.step(0, 0), NO_STEP);
        x.duty(4, 2);
        x.run();
        int[] first = {2, 4, 4, 6, 16, 18, 12, -1, -1};
        for (int what = 0; what < first.length; what++) {
            due("step(0, " + what + ")", x.step(0, what), first[what]);
        }
        due("step(0, MAX)", x.step(0, MAX), -1);
        int last = x.steps() - 1;
        due("steps()", last, 0);
        for (int k : new int[] {-1, 1, 99, MIN, MAX}) {
            CHECK.dueThrow("step(" + k + ", 0)", () -> x.step(k, 0), NO_STEP);
            CHECK.dueThrow("step(" + k + ", -1)", () -> x.step(k, -1), NO_STEP);
        }
        CHECK.dueThrow("step(0, -1)", () -> x.step(0, -1), NO_STEP);
        CHECK.dueThrow("step(0, MIN)", () -> x.step(0, MIN), NO_STEP);
        x.told(8);
        x.shade(4, false);
        due("run() of the shades", x.run(), 1);
        int[] many = {10, 0, 8, 1, 3, 5, 7, 11, 13, 15, 17, -1};
        for (int what = 0; what < many.length; what++) {
            due("step(1, " + what + ")", x.step(1, what), many[what]);
        }
        x.duty(0, 1);
        x.edge(0, false);
        x.run();
        due("step(2, 0) that is WRONG", x.step(2, 0), 1);
        due("step(2, 1)", x.step(2, 1), 0);
        due("step(2, 2)", x.step(2, 2), 0);
        due("step(2, 3)", x.step(2, 3), -1);
    }

    // Promise 11.
    private static void steps() {
        LoopRegions x = new LoopRegions(4, 1);
        due("steps() at first", x.steps(), 0);
        x.mark();
        x.run();
        due("steps()", x.steps(), 3);
        x.duty(0, 1);
        x.run();
        due("steps() with a WRONG one", x.steps(), 4);
        x.back(0);
        due("steps() behind back()", x.steps(), 0);
    }

    // Promise 12.
    private static void is() {
        LoopRegions x = new LoopRegions(2, 2);
        x.duty(3, 1);
        due("is(0)", x.is(0), 0);
        x.run();
        for (int e : new int[] {0, 1, 3, 4}) {
            due("is(" + e + ")", x.is(e), 1);
        }
        LoopRegions line = new LoopRegions(1, 2);
        line.run();
        due("is(1)", line.is(1), 2);
    }

    // Promise 13.
    private static void cell() {
        LoopRegions x = new LoopRegions(3, 3);
        int[] around = {2, 3, 2, 3, 4, 3, 2, 3, 2};
        for (int c = 0; c < 9; c++) {
            due("cell(" + c + ", 2)", x.cell(c, 2), 0);
            due("cell(" + c + ", 3)", x.cell(c, 3), around[c]);
        }
        x.edge(3, true);
        x.edge(6, false);
        x.shade(1, true);
        x.shade(7, true);
        x.shade(3, false);
        x.shade(5, false);
        due("cell(4, 2)", x.cell(4, 2), 1);
        due("cell(4, 3)", x.cell(4, 3), 2);
        due("cell(1, 2)", x.cell(1, 2), 1);
        due("cell(3, 3)", x.cell(3, 3), 2);
        due("cell(4, 0)", x.cell(4, 0), 0);
        x.run();
        int step = x.cell(4, 4);
        due("cell(4, 0)", x.cell(4, 0), 1);
        due("step(cell(4, 4), 0)", x.step(step, 0), 12);
        due("step(cell(4, 4), 1)", x.step(step, 1), 4);
        due("cell(1, 4), which was told", x.cell(1, 4), -1);
        due("cell(8, 4), which is open", x.cell(8, 4), -1);
        for (int what : new int[] {-1, 5, 6, MIN, MAX}) {
            due("cell(0, " + what + ")", x.cell(0, what), -1);
        }
        for (int c : new int[] {-1, 9, 64, MIN, MAX}) {
            CHECK.dueThrow("cell(" + c + ", 0)", () -> x.cell(c, 0), NO_INDEX);
            CHECK.dueThrow("cell(" + c + ", 9)", () -> x.cell(c, 9), NO_INDEX);
        }
    }

    // Promise 14.
    private static void reason() {
        LoopRegions x = new LoopRegions(3, 2);
        x.edge(0, true);
        x.edge(1, true);
        due("reason(6) when it is OPEN", x.reason(6), -1);
        x.run();
        due("reason(6)", x.reason(6), 0);
        due("reason(0), which was told", x.reason(0), -1);
        due("reason(3), which is OPEN", x.reason(3), -1);
        LoopRegions shades = new LoopRegions(2, 2);
        shades.told(0);
        shades.run();
        due("reason(0), when only shades came", shades.reason(0), -1);
        LoopRegions line = new LoopRegions(4, 1);
        line.run();
        due("reason(4)", line.reason(4), 2);
        due("cell(2, 4), when only edges came", line.cell(2, 4), -1);
    }

    // Promise 15.
    private static void mark() {
        LoopRegions x = new LoopRegions(3, 3);
        for (int m = 0; m < 12; m++) {
            due("mark()", x.mark(), m);
        }
        due("mark() when 12 stand", x.mark(), -1);
        due("mark() when 12 stand, again", x.mark(), -1);
        due("back(11)", x.back(11), true);
        due("mark()", x.mark(), 11);
        due("mark() when 12 stand", x.mark(), -1);
        due("back(3)", x.back(3), true);
        due("mark()", x.mark(), 3);
        due("mark()", x.mark(), 4);
    }

    // Promise 16.
    private static void back() {
        LoopRegions x = new LoopRegions(3, 3);
        due("back(0) when none stands", x.back(0), false);
        x.mark();
        x.mark();
        x.mark();
        for (int m : new int[] {-1, 3, 12, MIN, MAX}) {
            due("back(" + m + ")", x.back(m), false);
        }
        due("back(1)", x.back(1), true);
        due("back(1) again", x.back(1), false);
        due("back(2), a later one", x.back(2), false);
        due("back(0)", x.back(0), true);
        due("back(0) again", x.back(0), false);
    }

    private static void backLeadsToAllThatWas() {
        LoopRegions x = new LoopRegions(3, 3);
        x.duty(4, 2);
        x.told(3);
        x.shade(0, true);
        x.run();
        String before = all(x);
        due("mark()", x.mark(), 0);
        x.duty(0, 1);
        x.duty(4, 0);
        x.told(1);
        x.run();
        due("mark()", x.mark(), 1);
        x.duty(4, 1);
        x.run();
        due("wrong()", x.wrong(), true);
        due("back(0)", x.back(0), true);
        due("all", all(x), before);
        due("run()", x.run(), 0);
        x.shade(1, true);
        x.shade(2, true);
        due("run(), TOLD is 3 again", x.run(), 1);
        due("its number", x.step(x.steps() - 1, 0), 10);

        LoopRegions z = new LoopRegions(3, 3);
        z.mark();
        z.edge(0, false);
        z.edge(2, true);
        z.shade(0, false);
        z.back(0);
        due("is(0) behind back(0)", z.is(0), 0);
        due("is(2) behind back(0)", z.is(2), 0);
        due("cell(0, 0) behind back(0)", z.cell(0, 0), 0);

        LoopRegions y = new LoopRegions(1, 1);
        y.duty(0, 1);
        y.run();
        y.mark();
        y.duty(0, 0);
        due("wrong() behind duty(0, 0)", y.wrong(), false);
        y.back(0);
        due("wrong() behind back(0)", y.wrong(), true);
        due("cell(0, 1) behind back(0)", y.cell(0, 1), 1);
        due("run() behind back(0)", y.run(), 0);
        due("steps() behind back(0)", y.steps(), 1);
    }

    private static String all(LoopRegions x) {
        StringBuilder text = new StringBuilder();
        for (int e : new int[] {0, 1, 2, 3, 5, 6, 7, 8, 9, 11, 12, 14}) {
            text.append(x.is(e)).append(',').append(x.reason(e)).append(' ');
        }
        for (int c = 0; c < x.size(); c++) {
            for (int what = 0; what < 5; what++) {
                text.append(x.cell(c, what)).append(' ');
            }
        }
        for (int k = 0; k < x.steps(); k++) {
            for (int what = 0; what < 12; what++) {
                text.append(x.step(k, what)).append(' ');
            }
        }
        return text.append(x.wrong()).append(x.steps()).toString();
    }

    // "An object is used for at most 512 calls": that many hold 256 WRONG steps; later calls must still end.
    private static void manyCalls() {
        LoopRegions x = new LoopRegions(1, 1);
        for (int i = 0; i < 255; i++) {
            x.told(2);
            due("run() " + i, x.run(), 1);
        }
        due("steps()", x.steps(), 255);
        due("step(254, 0)", x.step(254, 0), 10);
        for (int i = 0; i < 3000; i++) {
            x.told(2);
            x.run();
            x.mark();
            x.cell(0, 4);
        }
        x.back(11);
        x.step(x.steps() - 1, 3);
    }
}
