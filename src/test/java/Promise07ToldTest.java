/** Promise 7: told. */
public final class Promise07ToldTest {
    private static final Check CHECK = new Check("Promise 7");

    public static void main(String[] args) {
        toldFromNowOn();
        leastAndMost();
        toldNoMore();
        tooSmallOrTooLarge();
        refusedCallLeavesIt();
        CHECK.end();
    }

    private static void toldFromNowOn() {
        CHECK.sentence("TOLD from now on");
        LoopRegions x = Tell.black(Tell.grid(2, 2), 0);
        x.told(3);
        CHECK.due("run() when 3 are told", x.run(), 0);
        x.told(1);
        CHECK.due("run() when 1 is told", x.run(), 1);
        CHECK.due("the log", Tell.log(x), "10@0 2 4 6");
        x.told(2);
        CHECK.due("run() when 2 are told, too late", x.run(), 1);
        CHECK.due("wrong()", x.wrong(), true);
    }

    private static void leastAndMost() {
        CHECK.sentence("it is not -1 .. 64");
        LoopRegions none = Tell.told(Tell.grid(2, 2), 0);
        CHECK.due("run() when 0 are told", none.run(), 1);
        CHECK.due("the log", Tell.log(none), "10@0 0 2 4 6");
        LoopRegions all = Tell.told(Tell.grid(8, 8), 64);
        CHECK.due("run() of 8 by 8 when 64 are told", all.run(), 1);
        CHECK.due("cell(63, 0)", all.cell(63, 0), 1);
        LoopRegions nearly = Tell.told(Tell.grid(8, 8), 63);
        CHECK.due("run() of 8 by 8 when 63 are told", nearly.run(), 0);
        LoopRegions tooMany = Tell.told(Tell.grid(2, 2), 64);
        CHECK.due("run() of 2 by 2 when 64 are told", tooMany.run(), 1);
        CHECK.due("wrong()", tooMany.wrong(), true);
    }

    private static void toldNoMore() {
        CHECK.sentence("TOLD from now on .. -1");
        LoopRegions x = Tell.told(Tell.grid(2, 2), 5);
        x.told(-1);
        CHECK.due("run() when it is told no more", x.run(), 0);
        CHECK.due("wrong()", x.wrong(), false);
    }

    private static void refused(LoopRegions x, int n) {
        CHECK.dueThrow("told(" + n + ")", () -> { x.told(n); return 0; }, Check.NO_ARGUMENT);
    }

    private static void tooSmallOrTooLarge() {
        CHECK.sentence("IllegalArgumentException: it is not -1 .. 64");
        for (int n : new int[] {-2, -3, 65, 66, 128, Tell.MIN, Tell.MAX}) {
            refused(Tell.grid(2, 2), n);
            refused(Tell.grid(8, 8), n);
        }
    }

    private static void refusedCallLeavesIt() {
        CHECK.sentence("IllegalArgumentException: it is not -1 .. 64");
        LoopRegions x = Tell.told(Tell.grid(2, 2), 4);
        refused(x, 65);
        refused(x, -2);
        CHECK.due("run() when 4 were told before", x.run(), 1);
        CHECK.due("the log", Tell.log(x), "10@0 1 3 5 7");
        LoopRegions wrong = Tell.ran(Tell.told(Tell.grid(2, 2), 5));
        refused(wrong, 65);
        CHECK.due("wrong() when told() has thrown", wrong.wrong(), true);
        CHECK.due("run() when told() has thrown", wrong.run(), 0);
        LoopRegions fresh = Tell.grid(2, 2);
        refused(fresh, 65);
        CHECK.due("run() when nothing was told before", fresh.run(), 0);
    }
}
