/** Promise 1: a new object. */
public final class Promise01NewObjectTest {
    private static final Check CHECK = new Check("Promise 1");

    public static void main(String[] args) {
        sidesFromOneToEight();
        lessCountsAsOne();
        moreCountsAsEight();
        oneTooSmallAndOneTooLarge();
        objectsShareNothing();
        CHECK.end();
    }

    /** How many edges a grid has tells its sides, together with its size. */
    private static void sides(int width, int height, int w, int h) {
        LoopRegions x = new LoopRegions(width, height);
        String name = "new LoopRegions(" + width + ", " + height + ")";
        CHECK.due(name + ".size()", x.size(), w * h);
        for (int p = 0; p < w * h; p++) {
            int across = 2 * p;
            int down = 2 * p + 1;
            CHECK.due(name + ".is(" + across + ")", Check.outcome(() -> x.is(across)),
                p % w < w - 1 ? (Object) 0 : Check.NO_INDEX.getName());
            CHECK.due(name + ".is(" + down + ")", Check.outcome(() -> x.is(down)),
                p / w < h - 1 ? (Object) 0 : Check.NO_INDEX.getName());
        }
    }

    private static void sidesFromOneToEight() {
        CHECK.sentence("Width and height 1 .. 8");
        for (int w = 1; w <= 8; w++) {
            for (int h = 1; h <= 8; h++) {
                sides(w, h, w, h);
            }
        }
    }

    private static void lessCountsAsOne() {
        CHECK.sentence("less counts as 1");
        for (int less : new int[] {0, -1, -8, Tell.MIN}) {
            sides(less, 5, 1, 5);
            sides(5, less, 5, 1);
            sides(less, less, 1, 1);
        }
    }

    private static void moreCountsAsEight() {
        CHECK.sentence("more as 8");
        for (int more : new int[] {9, 10, 64, 65536, Tell.MAX}) {
            sides(more, 3, 8, 3);
            sides(3, more, 3, 8);
            sides(more, more, 8, 8);
        }
    }

    private static void oneTooSmallAndOneTooLarge() {
        CHECK.sentence("less counts as 1, more as 8");
        sides(0, 9, 1, 8);
        sides(9, 0, 8, 1);
        sides(Tell.MIN, Tell.MAX, 1, 8);
        sides(Tell.MAX, Tell.MIN, 8, 1);
    }

    private static void objectsShareNothing() {
        CHECK.sentence("A new object");
        LoopRegions old = Tell.wrong();
        old.mark();
        LoopRegions x = new LoopRegions(3, 3);
        CHECK.due("wrong()", x.wrong(), false);
        CHECK.due("steps()", x.steps(), 0);
        CHECK.due("back(0)", x.back(0), false);
        CHECK.due("run()", x.run(), 0);
    }
}
