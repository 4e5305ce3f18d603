/** Promise 6: shade. */
public final class Promise06ShadeTest {
    private static final Check CHECK = new Check("Promise 6");

    public static void main(String[] args) {
        openShadeIsBlackOrWhite();
        falseWhenToldBefore();
        falseWhenAStepSetIt();
        falseChangesNothing();
        openAgainBehindBack();
        noSuchCell();
        CHECK.end();
    }

    private static void openShadeIsBlackOrWhite() {
        CHECK.sentence("A cell whose shade is open is BLACK, or WHITE: true");
        LoopRegions x = Tell.grid(8, 8);
        CHECK.due("shade(0, true)", x.shade(0, true), true);
        CHECK.due("cell(0, 0)", x.cell(0, 0), 1);
        CHECK.due("shade(63, false)", x.shade(63, false), true);
        CHECK.due("cell(63, 0)", x.cell(63, 0), 2);
        CHECK.due("shade(31, true)", x.shade(31, true), true);
        CHECK.due("shade(32, false)", x.shade(32, false), true);
        CHECK.due("cell(31, 0)", x.cell(31, 0), 1);
        CHECK.due("cell(32, 0)", x.cell(32, 0), 2);
        CHECK.due("cell(1, 0), which was not told", x.cell(1, 0), 0);
        CHECK.due("shade(0, true) of 1 by 1", Tell.grid(1, 1).shade(0, true), true);
    }

    private static void falseWhenToldBefore() {
        CHECK.sentence("false when it is not open");
        LoopRegions x = Tell.white(Tell.black(Tell.grid(3, 3), 0), 8);
        CHECK.due("shade(0, true) when black", x.shade(0, true), false);
        CHECK.due("shade(0, false) when black", x.shade(0, false), false);
        CHECK.due("shade(8, true) when white", x.shade(8, true), false);
        CHECK.due("shade(8, false) when white", x.shade(8, false), false);
        CHECK.due("cell(0, 0)", x.cell(0, 0), 1);
        CHECK.due("cell(8, 0)", x.cell(8, 0), 2);
    }

    private static void falseWhenAStepSetIt() {
        CHECK.sentence("false when it is not open");
        LoopRegions allWhite = Tell.ran(Tell.told(Tell.grid(2, 2), 0));
        CHECK.due("shade(3, true), white by a step", allWhite.shade(3, true), false);
        CHECK.due("cell(3, 0)", allWhite.cell(3, 0), 2);
        LoopRegions allBlack = Tell.ran(Tell.told(Tell.grid(2, 2), 4));
        CHECK.due("shade(3, false), black by a step", allBlack.shade(3, false), false);
        CHECK.due("cell(3, 0)", allBlack.cell(3, 0), 1);
    }

    private static void falseChangesNothing() {
        CHECK.sentence("false when it is not open");
        LoopRegions x = Tell.ran(Tell.told(Tell.black(Tell.grid(2, 2), 0, 1), 1));
        CHECK.due("wrong()", x.wrong(), true);
        String before = Tell.all(x);
        x.shade(0, true);
        x.shade(1, false);
        CHECK.due("all", Tell.all(x), before);
        CHECK.due("run()", x.run(), 0);
    }

    private static void openAgainBehindBack() {
        CHECK.sentence("A cell whose shade is open is BLACK, or WHITE: true");
        LoopRegions x = Tell.grid(3, 3);
        x.mark();
        x.shade(4, true);
        x.back(0);
        CHECK.due("shade(4, false) behind back(0)", x.shade(4, false), true);
        CHECK.due("cell(4, 0)", x.cell(4, 0), 2);
    }

    private static void noSuchCell() {
        CHECK.sentence("ArrayIndexOutOfBoundsException: there is no such cell");
        LoopRegions x = Tell.wrong();
        String before = Tell.all(x);
        for (int c : Tell.NO_CELLS_OF_3_BY_3) {
            CHECK.dueThrow("shade(" + c + ", true)", () -> x.shade(c, true), Check.NO_INDEX);
            CHECK.dueThrow("shade(" + c + ", false)", () -> x.shade(c, false), Check.NO_INDEX);
        }
        CHECK.due("all, behind what was refused", Tell.all(x), before);
        LoopRegions big = Tell.grid(8, 8);
        CHECK.dueThrow("shade(64, true) of 8 by 8", () -> big.shade(64, true), Check.NO_INDEX);
        CHECK.dueThrow("shade(-1, true) of 8 by 8", () -> big.shade(-1, true), Check.NO_INDEX);
        CHECK.due("cell(0, 0) of 8 by 8", big.cell(0, 0), 0);
        CHECK.due("cell(63, 0) of 8 by 8", big.cell(63, 0), 0);
    }
}
