/** Promise 10: step. */
public final class Promise10StepTest {
    private static final Check CHECK = new Check("Promise 10");

    public static void main(String[] args) {
        numberPlaceAndChanges();
        changesOfShades();
        edgesOnAndOff();
        mostChanges();
        wrongStepHasNone();
        minusOneBehind();
        noSuchStep();
        whatBelowZero();
        stepsThatBackTookAway();
        stepsOfSeveralRuns();
        CHECK.end();
    }

    private static void row(LoopRegions x, int k, int... want) {
        for (int what = 0; what < want.length; what++) {
            CHECK.due("step(" + k + ", " + what + ")", x.step(k, what), want[what]);
        }
    }

    private static void numberPlaceAndChanges() {
        CHECK.sentence("0 its number 1 .. 12, 1 its place, 2 how many it changed, 3, 4, .. what it changed, in order");
        row(Tell.ran(Tell.barred(Tell.grid(3, 3), 4)), 0, 2, 4, 4, 6, 16, 18, 12, -1);
        row(Tell.ran(Tell.off(Tell.grid(4, 4), 9, 11, 13)), 0, 7, 4, 1, 30, -1);
        row(Tell.ran(Tell.off(Tell.grid(4, 4), 2, 10, 9)), 0, 8, 11, 1, 22, -1);
    }

    private static void edgesOnAndOff() {
        CHECK.sentence("edge e as 2 e + 1 when it became ON, 2 e when OFF");
        row(Tell.ran(Tell.must(Tell.grid(3, 3), 0)), 0, 4, 0, 2, 1, 3, -1);
        row(Tell.ran(Tell.barred(Tell.grid(3, 3), 0)), 0, 2, 0, 2, 0, 2, -1);
        row(Tell.ran(Tell.must(Tell.grid(8, 8), 63)), 0, 4, 63, 2, 223, 249, -1);
        row(Tell.ran(Tell.barred(Tell.grid(8, 8), 63)), 0, 2, 63, 2, 222, 248, -1);
    }

    private static void changesOfShades() {
        CHECK.sentence("in steps 10 to 12 cell c as 2 c + 1 when it became black, 2 c when white");
        row(Tell.ran(Tell.told(Tell.white(Tell.grid(2, 2), 1), 3)), 0, 10, 0, 3, 1, 5, 7, -1);
        row(Tell.ran(Tell.told(Tell.black(Tell.grid(2, 2), 1), 1)), 0, 10, 0, 3, 0, 4, 6, -1);
        row(Tell.ran(Tell.black(Tell.white(Tell.grid(3, 3), 1, 3), 8)), 0, 11, 0, 1, 0, -1);
        row(Tell.ran(Tell.white(Tell.black(Tell.grid(4, 4), 0, 15), 1, 5)), 0, 12, 4, 1, 9, -1);
    }

    private static void mostChanges() {
        CHECK.sentence("3, 4, .. what it changed, in order");
        LoopRegions x = Tell.ran(Tell.told(Tell.grid(8, 8), 64));
        CHECK.due("step(0, 2)", x.step(0, 2), 64);
        for (int c = 0; c < 64; c++) {
            CHECK.due("step(0, " + (3 + c) + ")", x.step(0, 3 + c), 2 * c + 1);
        }
        CHECK.due("step(0, 67)", x.step(0, 67), -1);
    }

    private static void wrongStepHasNone() {
        CHECK.sentence("(0: WRONG)");
        row(Tell.wrong(), 0, 1, 0, 0, -1, -1);
        row(Tell.ran(Tell.told(Tell.grid(2, 2), 5)), 0, 10, 0, 0, -1, -1);
    }

    private static void minusOneBehind() {
        CHECK.sentence("-1 behind");
        LoopRegions x = Tell.ran(Tell.grid(4, 1));
        for (int k = 0; k < 3; k++) {
            int step = k;
            for (int what : new int[] {4, 5, 6, 67, 1000, Tell.MAX - 1, Tell.MAX}) {
                CHECK.due("step(" + step + ", " + what + ")", x.step(step, what), -1);
            }
        }
    }

    private static void noSuchStep() {
        CHECK.sentence("IndexOutOfBoundsException: there is no such step");
        LoopRegions none = Tell.grid(3, 3);
        CHECK.dueThrow("step(0, 0) before any", () -> none.step(0, 0), Check.NO_STEP);
        CHECK.dueThrow("step(-1, 0) before any", () -> none.step(-1, 0), Check.NO_STEP);
        LoopRegions x = Tell.ran(Tell.grid(4, 1));
        for (int k : new int[] {-1, -2, 3, 4, 99, 600, Tell.MIN, Tell.MAX}) {
            for (int what : new int[] {0, 1, 2, 3, 99, -1}) {
                CHECK.dueThrow("step(" + k + ", " + what + ")", () -> x.step(k, what), Check.NO_STEP);
            }
        }
        CHECK.due("step(0, 1), the first", x.step(0, 1), 0);
        CHECK.due("step(2, 1), the last", x.step(2, 1), 2);
    }

    private static void whatBelowZero() {
        CHECK.sentence("IndexOutOfBoundsException: .. what is below 0");
        LoopRegions x = Tell.ran(Tell.grid(4, 1));
        for (int what : new int[] {-1, -2, -3, Tell.MIN, Tell.MIN + 2, Tell.MIN + 3}) {
            CHECK.dueThrow("step(0, " + what + ")", () -> x.step(0, what), Check.NO_STEP);
            CHECK.dueThrow("step(2, " + what + ")", () -> x.step(2, what), Check.NO_STEP);
        }
    }

    private static void stepsThatBackTookAway() {
        CHECK.sentence("those that back() took away count no more");
        LoopRegions x = Tell.ran(Tell.barred(Tell.grid(3, 3), 4));
        x.mark();
        Tell.ran(Tell.must(x, 0));
        CHECK.due("step(1, 0)", x.step(1, 0), 4);
        x.back(0);
        CHECK.dueThrow("step(1, 0) behind back(0)", () -> x.step(1, 0), Check.NO_STEP);
        row(x, 0, 2, 4, 4, 6, 16, 18, 12, -1);
        Tell.ran(Tell.told(x, 0));
        row(x, 1, 10, 0, 9, 0, 2, 4, 6, 8, 10, 12, 14, 16, -1);
    }

    private static void stepsOfSeveralRuns() {
        CHECK.sentence("Of the k-th step ever (from 0 on)");
        LoopRegions x = Tell.ran(Tell.barred(Tell.grid(3, 3), 4));
        Tell.ran(Tell.told(Tell.white(x, 4), 8));
        Tell.ran(Tell.must(Tell.off(x, 0), 0));
        row(x, 0, 2, 4, 4, 6, 16, 18, 12, -1);
        row(x, 1, 10, 0, 8, 1, 3, 5, 7, 11, 13, 15, 17, -1);
        row(x, 2, 1, 0, 0, -1);
    }
}
