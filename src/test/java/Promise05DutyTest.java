/** Promise 5: duty. */
public final class Promise05DutyTest {
    private static final Check CHECK = new Check("Promise 5");

    public static void main(String[] args) {
        fromEachToEach();
        falseWhenItIsSoAlready();
        falseChangesNothing();
        dutiesOfOthersStay();
        whatStepsDidStays();
        noSuchCell();
        noSuchDuty();
        bothAreWrong();
        CHECK.end();
    }

    private static void fromEachToEach() {
        CHECK.sentence("A cell is FREE, MUST or BARRED: true");
        LoopRegions x = Tell.grid(8, 8);
        for (int c : new int[] {0, 27, 63}) {
            for (int d : new int[] {1, 2, 1, 0, 2, 0}) {
                CHECK.due("duty(" + c + ", " + d + ")", x.duty(c, d), true);
                CHECK.due("cell(" + c + ", 1)", x.cell(c, 1), d);
            }
        }
    }

    private static void falseWhenItIsSoAlready() {
        CHECK.sentence("false when it is so already");
        LoopRegions x = Tell.grid(3, 3);
        CHECK.due("duty(4, 0) at first", x.duty(4, 0), false);
        for (int d : new int[] {1, 2, 0}) {
            x.duty(4, d);
            CHECK.due("duty(4, " + d + ") again", x.duty(4, d), false);
            CHECK.due("cell(4, 1)", x.cell(4, 1), d);
        }
    }

    private static void falseChangesNothing() {
        CHECK.sentence("false when it is so already");
        LoopRegions x = Tell.wrong();
        String before = Tell.all(x);
        x.duty(0, 1);
        x.duty(5, 0);
        CHECK.due("all", Tell.all(x), before);
        CHECK.due("run()", x.run(), 0);
    }

    private static void dutiesOfOthersStay() {
        CHECK.sentence("A cell is FREE, MUST or BARRED");
        LoopRegions x = Tell.barred(Tell.must(Tell.grid(3, 3), 0), 8);
        x.duty(4, 1);
        x.duty(4, 2);
        x.duty(4, 0);
        CHECK.due("cell(0, 1)", x.cell(0, 1), 1);
        CHECK.due("cell(8, 1)", x.cell(8, 1), 2);
    }

    private static void whatStepsDidStays() {
        CHECK.sentence("A cell is FREE, MUST or BARRED");
        LoopRegions x = Tell.ran(Tell.barred(Tell.grid(3, 3), 4));
        CHECK.due("duty(4, 0)", x.duty(4, 0), true);
        CHECK.due("is(3), OFF by a step", x.is(3), 2);
        CHECK.due("reason(3)", x.reason(3), 0);
    }

    private static void noSuchCell() {
        CHECK.sentence("ArrayIndexOutOfBoundsException: there is no such cell");
        LoopRegions x = Tell.wrong();
        String before = Tell.all(x);
        for (int c : Tell.NO_CELLS_OF_3_BY_3) {
            for (int d = 0; d <= 2; d++) {
                int duty = d;
                CHECK.dueThrow("duty(" + c + ", " + d + ")", () -> x.duty(c, duty), Check.NO_INDEX);
            }
        }
        CHECK.due("all, behind what was refused", Tell.all(x), before);
        LoopRegions big = Tell.grid(8, 8);
        CHECK.dueThrow("duty(64, 1) of 8 by 8", () -> big.duty(64, 1), Check.NO_INDEX);
        CHECK.dueThrow("duty(-1, 1) of 8 by 8", () -> big.duty(-1, 1), Check.NO_INDEX);
        CHECK.due("cell(0, 1) of 8 by 8", big.cell(0, 1), 0);
    }

    private static void noSuchDuty() {
        CHECK.sentence("IllegalArgumentException: duty is not 0 .. 2");
        LoopRegions x = Tell.wrong();
        String before = Tell.all(x);
        for (int d : new int[] {-1, -2, 3, 4, Tell.MIN, Tell.MAX}) {
            CHECK.dueThrow("duty(0, " + d + ")", () -> x.duty(0, d), Check.NO_ARGUMENT);
            CHECK.dueThrow("duty(8, " + d + ")", () -> x.duty(8, d), Check.NO_ARGUMENT);
        }
        CHECK.due("all, behind what was refused", Tell.all(x), before);
    }

    // The document does not say which; the cell is looked at first, as it is named first.
    private static void bothAreWrong() {
        CHECK.sentence("ArrayIndexOutOfBoundsException: there is no such cell. IllegalArgumentException: ..");
        LoopRegions x = Tell.grid(3, 3);
        CHECK.dueThrow("duty(9, 3)", () -> x.duty(9, 3), Check.NO_INDEX);
        CHECK.dueThrow("duty(-1, -1)", () -> x.duty(-1, -1), Check.NO_INDEX);
    }
}
