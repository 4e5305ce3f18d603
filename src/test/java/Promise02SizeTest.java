/** Promise 2: size. */
public final class Promise02SizeTest {
    private static final Check CHECK = new Check("Promise 2");

    public static void main(String[] args) {
        howManyCells();
        neverChanges();
        CHECK.end();
    }

    private static void howManyCells() {
        CHECK.sentence("How many cells");
        int[][] sizes = {{1, 1, 1}, {1, 8, 8}, {8, 1, 8}, {3, 2, 6}, {2, 3, 6}, {7, 8, 56}, {8, 8, 64}};
        for (int[] s : sizes) {
            CHECK.due("size() of " + s[0] + " by " + s[1], Tell.grid(s[0], s[1]).size(), s[2]);
        }
        CHECK.due("the smallest, by too small sides", Tell.grid(0, -3).size(), 1);
        CHECK.due("the largest, by too large sides", Tell.grid(9, 100).size(), 64);
    }

    private static void neverChanges() {
        CHECK.sentence("How many cells");
        LoopRegions x = Tell.wrong();
        CHECK.due("size() when something is WRONG", x.size(), 9);
        Tell.white(x, 0, 1);
        Tell.barred(x, 8);
        CHECK.due("size() with cells white and BARRED", x.size(), 9);
    }
}
