import java.util.Random;

/**
 * Runs of random calls, the same on LoopRegions and on PlainModel: every answer and, now and then, all that can
 * be asked must be alike. The seeds are fixed, so each time the runs are the same.
 */
public final class ModelTest {
    private static final int MOST_CALLS = 512;
    private static final Check CHECK = new Check("Random runs");
    private static final int[] DONE = new int[13];
    private static final int[] WRONG = new int[13];

    private final Random random;
    private final LoopRegions x;
    private final PlainModel y;
    private final String name;
    private final int kind;
    private int calls = 0;

    private ModelTest(int seed) {
        random = new Random(seed);
        kind = seed % 6;
        int w = seed % 3 == 0 ? 8 - random.nextInt(3) : random.nextInt(10);
        int h = seed % 3 == 0 ? 8 - random.nextInt(3) : random.nextInt(10);
        x = new LoopRegions(w, h);
        y = new PlainModel(w, h);
        name = "seed " + seed + " (" + w + ", " + h + ") call ";
    }

    public static void main(String[] args) {
        for (int seed = 0; seed < 2400 && !CHECK.failed(); seed++) {
            new ModelTest(seed).play();
        }
        for (int number = 1; number <= 12; number++) {
            boolean changes = number != 1 && number != 5;
            boolean canBeWrong = number != 2 && number != 3 && number != 4 && number != 6 && number != 12;
            CHECK.due("step " + number + " that changes came up", DONE[number] > 0, changes);
            CHECK.due("step " + number + " that is WRONG came up", WRONG[number] > 0, canBeWrong);
        }
        CHECK.end();
    }

    private void play() {
        boolean isLong = random.nextInt(20) == 0;
        int length = isLong ? MOST_CALLS : 20 + random.nextInt(140);
        for (int i = 0; i < length && calls < MOST_CALLS && !CHECK.failed(); i++) {
            calls++;
            one(random.nextInt(40));
        }
        compareAll();
    }

    private void one(int pick) {
        if (pick < 10 && kind != 5) {
            int e = random.nextInt(2 * y.size() + 2) - 1;
            boolean on = random.nextInt(4) >= kind;
            same("edge(" + e + ", " + on + ")", () -> x.edge(e, on), () -> y.edge(e, on));
        } else if (pick < 14) {
            int c = random.nextInt(y.size() + 2) - 1;
            int d = random.nextInt(8) == 0 ? random.nextInt(6) - 2 : kind < 2 ? 1 : random.nextInt(3);
            same("duty(" + c + ", " + d + ")", () -> x.duty(c, d), () -> y.duty(c, d));
        } else if (pick < 22) {
            int c = random.nextInt(y.size() + 2) - 1;
            boolean black = random.nextInt(4) >= kind;
            same("shade(" + c + ", " + black + ")", () -> x.shade(c, black), () -> y.shade(c, black));
        } else if (pick == 22) {
            int n = random.nextInt(3) == 0 ? -1 : random.nextInt(5) == 0 ? random.nextInt(70) - 3 : random.nextInt(y.size() + 1);
            same("told(" + n + ")", () -> { x.told(n); return 0; }, () -> { y.told(n); return 0; });
        } else if (pick < 28) {
            runBoth();
        } else if (pick < 30) {
            same("mark()", x::mark, y::mark);
        } else if (pick == 30) {
            int m = random.nextInt(14) - 1;
            same("back(" + m + ")", () -> x.back(m), () -> y.back(m));
        } else {
            ask();
        }
    }

    private void runBoth() {
        int before = y.steps.size();
        same("run()", x::run, y::run);
        for (int k = before; k < y.steps.size(); k++) {
            int[] s = y.steps.get(k);
            (s[2] == 0 ? WRONG : DONE)[s[0]]++;
        }
        compareSteps(before);
    }

    private void ask() {
        int e = random.nextInt(2 * y.size() + 4) - 2;
        int c = random.nextInt(y.size() + 4) - 2;
        int what = random.nextInt(9) - 2;
        int k = random.nextInt(y.steps.size() + 3) - 1;
        boolean greater = random.nextBoolean();
        same("end(" + e + ", " + greater + ")", () -> x.end(e, greater), () -> y.end(e, greater));
        same("is(" + e + ")", () -> x.is(e), () -> y.is(e));
        same("reason(" + e + ")", () -> x.reason(e), () -> y.reason(e));
        same("cell(" + c + ", " + what + ")", () -> x.cell(c, what), () -> y.cell(c, what));
        same("step(" + k + ", " + what + ")", () -> x.step(k, what), () -> y.step(k, what));
        same("wrong()", x::wrong, () -> y.wrong);
    }

    private void compareAll() {
        same("size()", x::size, y::size);
        same("steps()", x::steps, () -> y.steps.size());
        same("wrong()", x::wrong, () -> y.wrong);
        for (int i = -2; i < 2 * y.size() + 2; i++) {
            int e = i;
            same("is(" + e + ")", () -> x.is(e), () -> y.is(e));
            same("reason(" + e + ")", () -> x.reason(e), () -> y.reason(e));
            same("end(" + e + ", true)", () -> x.end(e, true), () -> y.end(e, true));
        }
        for (int i = -1; i <= y.size(); i++) {
            for (int j = -1; j <= 5; j++) {
                int c = i;
                int what = j;
                same("cell(" + c + ", " + what + ")", () -> x.cell(c, what), () -> y.cell(c, what));
            }
        }
        compareSteps(0);
    }

    private void compareSteps(int from) {
        for (int i = from; i < y.steps.size(); i++) {
            int k = i;
            for (int j = 0; j <= y.steps.get(k).length; j++) {
                int what = j;
                same("step(" + k + ", " + what + ")", () -> x.step(k, what), () -> y.step(k, what));
            }
        }
    }

    private void same(String call, Check.Call mine, Check.Call plain) {
        CHECK.due(name + calls + ": " + call, Check.outcome(mine), Check.outcome(plain));
    }
}
