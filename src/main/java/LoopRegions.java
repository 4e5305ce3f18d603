/**
 * One closed loop over the cells of a grid, and shaded cells that hang together: what is told leads,
 * by twelve kinds of steps, to edges and shades that follow from it.
 */
public final class LoopRegions {
    private static final int MOST_SIDE = 8;
    private static final int MOST_MARKS = 12;
    private static final int MOST_TOLD = 64;
    private static final int NONE = -1;

    // Each WRONG step needs a run() and something told before it, so 512 calls hold no more of them.
    private static final int MOST_WRONG = 256;

    private static final int OPEN = 0;
    private static final int ON = 1;
    private static final int OFF = 2;

    private static final int FREE = 0;
    private static final int MUST = 1;
    private static final int BARRED = 2;

    private static final int BLACK = 1;
    private static final int WHITE = 2;

    private static final int STEP_CELL = 1;
    private static final int STEP_FULL = 2;
    private static final int STEP_ALONE = 3;
    private static final int STEP_FORCED = 4;
    private static final int STEP_CLOSED = 5;
    private static final int STEP_EARLY = 6;
    private static final int STEP_BORDER = 7;
    private static final int STEP_BRIDGE = 8;
    private static final int STEP_APART = 9;
    private static final int STEP_MANY = 10;
    private static final int STEP_PARTS = 11;
    private static final int STEP_CUT = 12;

    private final Grid grid;
    private final State now;
    private final StepLog log;
    private final Rules rules;
    private final State[] marks;
    private final int[] stepsAtMark;
    private int standing;

    public LoopRegions(int width, int height) {
        grid = new Grid(sideWithin(width), sideWithin(height));
        now = new State(grid);
        log = new StepLog(grid.edgeCount + grid.cellCount);
        rules = new Rules(grid, now, log);
        marks = new State[MOST_MARKS];
        stepsAtMark = new int[MOST_MARKS];
        standing = 0;
    }

    public int size() {
        return grid.cellCount;
    }

    public int end(int edge, boolean greater) throws ArrayIndexOutOfBoundsException {
        checkEdge(edge);
        return greater ? grid.greaterEnd(edge) : Grid.lesserEnd(edge);
    }

    public boolean edge(int edge, boolean on) throws ArrayIndexOutOfBoundsException {
        checkEdge(edge);
        if (now.stateOf(edge) != OPEN) {
            return false;
        }
        now.setEdge(edge, on);
        now.wrong = false;
        return true;
    }

    public boolean duty(int cell, int duty) throws ArrayIndexOutOfBoundsException, IllegalArgumentException {
        checkCell(cell);
        if (duty < FREE || duty > BARRED) {
            throw new IllegalArgumentException("a duty is 0 to 2");
        }
        if (now.dutyOf(cell) == duty) {
            return false;
        }
        now.setDuty(cell, duty);
        now.wrong = false;
        return true;
    }

    public boolean shade(int cell, boolean black) throws ArrayIndexOutOfBoundsException {
        checkCell(cell);
        if (now.shadeOf(cell) != OPEN) {
            return false;
        }
        now.setShade(cell, black);
        now.wrong = false;
        return true;
    }

    public void told(int n) throws IllegalArgumentException {
        if (n < NONE || n > MOST_TOLD) {
            throw new IllegalArgumentException("what is told is -1 to 64");
        }
        now.told = n;
        now.wrong = false;
    }

    public int run() {
        int before = log.count;
        boolean more = true;
        for (int left = log.room(); left > 0 && more && !now.wrong; left--) {
            more = rules.doFirst();
        }
        return log.count - before;
    }

    public boolean wrong() {
        return now.wrong;
    }

    public int step(int k, int what) throws IndexOutOfBoundsException {
        if (k < 0 || k >= log.count) {
            throw new IndexOutOfBoundsException("there is no such step");
        }
        if (what < 0) {
            throw new IndexOutOfBoundsException("nothing of a step is below 0");
        }
        switch (what) {
            case 0:
                return log.numberOf(k);
            case 1:
                return log.placeOf(k);
            case 2:
                return log.changesOf(k);
            default:
                return log.changeOf(k, what - 3);
        }
    }

    public int steps() {
        return log.count;
    }

    public int is(int edge) throws ArrayIndexOutOfBoundsException {
        checkEdge(edge);
        return now.stateOf(edge);
    }

    public int cell(int cell, int what) throws ArrayIndexOutOfBoundsException {
        checkCell(cell);
        switch (what) {
            case 0:
                return now.shadeOf(cell);
            case 1:
                return now.dutyOf(cell);
            case 2:
                return now.on.countAt(cell);
            case 3:
                return grid.all.countAt(cell) - now.on.countAt(cell) - now.off.countAt(cell);
            case 4:
                return log.stepThatChanged(cell, true);
            default:
                return NONE;
        }
    }

    public int reason(int edge) throws ArrayIndexOutOfBoundsException {
        checkEdge(edge);
        return log.stepThatChanged(edge, false);
    }

    public int mark() {
        if (standing < 0 || standing >= MOST_MARKS) {
            return NONE;
        }
        if (marks[standing] == null) {
            marks[standing] = new State(grid);
        }
        marks[standing].copy(now);
        stepsAtMark[standing] = log.count;
        standing++;
        return standing - 1;
    }

    public boolean back(int mark) {
        if (mark < 0 || mark >= standing || mark >= MOST_MARKS || marks[mark] == null) {
            return false;
        }
        now.copy(marks[mark]);
        log.count = stepsAtMark[mark];
        standing = mark;
        return true;
    }

    private static int sideWithin(int side) {
        return Math.max(1, Math.min(MOST_SIDE, side));
    }

    private void checkEdge(int edge) {
        if (!grid.hasEdge(edge)) {
            throw new ArrayIndexOutOfBoundsException("there is no such edge");
        }
    }

    private void checkCell(int cell) {
        if (!grid.hasCell(cell)) {
            throw new ArrayIndexOutOfBoundsException("there is no such cell");
        }
    }

    // A set of cells is a long, bit p for cell p: no grid has more than 64 cells.

    private static long only(int cell) {
        return 1L << cell;
    }

    private static boolean holds(long cells, int cell) {
        return (cells & only(cell)) != 0;
    }

    private static int least(long cells) {
        return Long.bitCount((cells & -cells) - 1);
    }

    /** A set of edges: each is held at its lesser cell. */
    private static final class Edges {
        final int width;
        long right;
        long below;

        Edges(int width) {
            this.width = width;
        }

        void copy(Edges other) {
            right = other.right;
            below = other.below;
        }

        void copyWithout(Edges other, Edges gone) {
            right = other.right & ~gone.right;
            below = other.below & ~gone.below;
        }

        boolean has(int edge) {
            return ((isBelow(edge) ? below : right) & only(Grid.lesserEnd(edge))) != 0;
        }

        void add(int edge) {
            if (isBelow(edge)) {
                below |= only(Grid.lesserEnd(edge));
            } else {
                right |= only(Grid.lesserEnd(edge));
            }
        }

        void remove(int edge) {
            if (isBelow(edge)) {
                below &= ~only(Grid.lesserEnd(edge));
            } else {
                right &= ~only(Grid.lesserEnd(edge));
            }
        }

        int countAt(int cell) {
            long here = only(cell);
            return Long.bitCount(right & here) + Long.bitCount(left() & here)
                + Long.bitCount(below & here) + Long.bitCount(above() & here);
        }

        long cellsWithOne() {
            return right | left() | below | above();
        }

        long cellsWithTwo() {
            return (right & left()) | (below & above()) | ((right | left()) & (below | above()));
        }

        long cellsWithThree() {
            return (right & left() & (below | above())) | (below & above() & (right | left()));
        }

        /** All cells that can be come to from these over edges of the set. */
        long reach(long from) {
            long seen = from;
            for (int i = 0; i < MOST_SIDE * MOST_SIDE; i++) {
                long next = spread(seen);
                if (next == seen) {
                    return seen;
                }
                seen = next;
            }
            return seen;
        }

        /** As reach() would tell it, but done as soon as the other cell is come to. */
        boolean joins(int from, int to) {
            long seen = only(from);
            for (int i = 0; i < MOST_SIDE * MOST_SIDE && !holds(seen, to); i++) {
                long next = spread(seen);
                if (next == seen) {
                    return false;
                }
                seen = next;
            }
            return holds(seen, to);
        }

        private long spread(long cells) {
            return cells | ((cells & right) << 1) | ((cells >>> 1) & right)
                | ((cells & below) << width) | ((cells >>> width) & below);
        }

        private long left() {
            return right << 1;
        }

        private long above() {
            return below << width;
        }

        static boolean isBelow(int edge) {
            return (edge & 1) != 0;
        }
    }

    /** The cells and the edges that are there. */
    private static final class Grid {
        static final int DIRECTIONS = 4;

        final int width;
        final int height;
        final int cellCount;
        final int edgeCount;
        final int edgeNumbers;
        final long cells;
        final Edges all;

        Grid(int width, int height) {
            this.width = width;
            this.height = height;
            cellCount = width * height;
            edgeCount = (width - 1) * height + width * (height - 1);
            edgeNumbers = 2 * cellCount;
            all = new Edges(width);
            long every = 0;
            for (int cell = 0; cell < cellCount; cell++) {
                every |= only(cell);
                if (cell + width < cellCount) {
                    all.below |= only(cell);
                }
            }
            cells = every;
            all.right = every & ~column(width - 1);
        }

        boolean hasCell(int cell) {
            return cell >= 0 && cell < cellCount;
        }

        boolean hasEdge(int edge) {
            return edge >= 0 && edge < edgeNumbers && all.has(edge);
        }

        static int lesserEnd(int edge) {
            return edge >> 1;
        }

        int greaterEnd(int edge) {
            return lesserEnd(edge) + (Edges.isBelow(edge) ? width : 1);
        }

        /** The edge of a cell above, to the right, below or to the left; NONE at the rim. */
        int edgeOf(int cell, int direction) {
            int edge = NONE;
            switch (direction) {
                case 0:
                    edge = 2 * (cell - width) + 1;
                    break;
                case 1:
                    edge = 2 * cell;
                    break;
                case 2:
                    edge = 2 * cell + 1;
                    break;
                default:
                    edge = 2 * (cell - 1);
                    break;
            }
            return hasEdge(edge) ? edge : NONE;
        }

        long column(int x) {
            long line = 0;
            for (int y = 0; y < height; y++) {
                line |= only(width * y + x);
            }
            return line;
        }

        long row(int y) {
            long line = 0;
            for (int x = 0; x < width; x++) {
                line |= only(width * y + x);
            }
            return line;
        }

        int borderCount() {
            return width - 1 + height - 1;
        }
    }

    /** All that a mark holds, but for the steps. */
    private static final class State {
        final Edges on;
        final Edges off;
        long must;
        long barred;
        long black;
        long white;
        int told;
        boolean wrong;

        State(Grid grid) {
            on = new Edges(grid.width);
            off = new Edges(grid.width);
            told = NONE;
        }

        void copy(State other) {
            on.copy(other.on);
            off.copy(other.off);
            must = other.must;
            barred = other.barred;
            black = other.black;
            white = other.white;
            told = other.told;
            wrong = other.wrong;
        }

        int stateOf(int edge) {
            if (on.has(edge)) {
                return ON;
            }
            return off.has(edge) ? OFF : OPEN;
        }

        void setEdge(int edge, boolean toOn) {
            if (toOn) {
                on.add(edge);
            } else {
                off.add(edge);
            }
        }

        int dutyOf(int cell) {
            if (holds(must, cell)) {
                return MUST;
            }
            return holds(barred, cell) ? BARRED : FREE;
        }

        void setDuty(int cell, int duty) {
            must &= ~only(cell);
            barred &= ~only(cell);
            if (duty == MUST) {
                must |= only(cell);
            } else if (duty == BARRED) {
                barred |= only(cell);
            }
        }

        int shadeOf(int cell) {
            if (holds(black, cell)) {
                return BLACK;
            }
            return holds(white, cell) ? WHITE : OPEN;
        }

        void setShade(int cell, boolean toBlack) {
            if (toBlack) {
                black |= only(cell);
            } else {
                white |= only(cell);
            }
        }
    }

    /**
     * The steps that count, in order. What a step changed stays changed as long as the step counts,
     * so nothing comes twice among the changes, and back() need only lower the count.
     */
    private static final class StepLog {
        private final int[] numbers;
        private final int[] places;
        private final int[] changeEnds;
        private final int[] changes;
        int count;

        StepLog(int mostChanges) {
            int mostSteps = mostChanges + MOST_WRONG;
            numbers = new int[mostSteps];
            places = new int[mostSteps];
            changeEnds = new int[mostSteps];
            changes = new int[mostChanges];
        }

        int room() {
            return numbers.length - count;
        }

        void begin(int number, int place) {
            if (count < 0 || count >= numbers.length) {
                return;
            }
            numbers[count] = number;
            places[count] = place;
            changeEnds[count] = changeStart(count);
            count++;
        }

        /** One more change of the step begun last. */
        void addChange(int thing, boolean toOnOrBlack) {
            int last = count - 1;
            if (!hasStep(last)) {
                return;
            }
            int at = changeEnds[last];
            if (at < 0 || at >= changes.length) {
                return;
            }
            changes[at] = 2 * thing + (toOnOrBlack ? 1 : 0);
            changeEnds[last] = at + 1;
        }

        int numberOf(int k) {
            return hasStep(k) ? numbers[k] : NONE;
        }

        int placeOf(int k) {
            return hasStep(k) ? places[k] : NONE;
        }

        int changesOf(int k) {
            return hasStep(k) ? changeEnds[k] - changeStart(k) : 0;
        }

        int changeOf(int k, int which) {
            if (which < 0 || which >= changesOf(k)) {
                return NONE;
            }
            int at = changeStart(k) + which;
            return at >= 0 && at < changes.length ? changes[at] : NONE;
        }

        int stepThatChanged(int thing, boolean ofShades) {
            for (int k = 0; k < count; k++) {
                boolean changesShades = numberOf(k) >= STEP_MANY;
                if (changesShades == ofShades && hasChanged(k, thing)) {
                    return k;
                }
            }
            return NONE;
        }

        private boolean hasChanged(int k, int thing) {
            int some = changesOf(k);
            for (int i = 0; i < some; i++) {
                if (changeOf(k, i) >> 1 == thing) {
                    return true;
                }
            }
            return false;
        }

        private boolean hasStep(int k) {
            return k >= 0 && k < count && k < numbers.length;
        }

        private int changeStart(int k) {
            return k > 0 && k <= changeEnds.length ? changeEnds[k - 1] : 0;
        }
    }

    /** The twelve steps of RUN. Each method does its step at its first place, or answers false. */
    private static final class Rules {
        private final Grid grid;
        private final State now;
        private final StepLog log;

        // What the steps ask of the state, found anew before each step.
        private final Edges open;
        private final Edges notOff;
        private long someOn;
        private long twoOn;
        private long oneOn;
        private long needed;

        private final Edges spare;

        Rules(Grid grid, State now, StepLog log) {
            this.grid = grid;
            this.now = now;
            this.log = log;
            open = new Edges(grid.width);
            notOff = new Edges(grid.width);
            spare = new Edges(grid.width);
        }

        boolean doFirst() {
            look();
            return doCell() || doFull() || doAlone() || doForced() || doClosed() || doEarly()
                || doBorder() || doBridge() || doApart() || doMany() || doParts() || doCut();
        }

        private void look() {
            notOff.copyWithout(grid.all, now.off);
            open.copyWithout(notOff, now.on);
            someOn = now.on.cellsWithOne();
            twoOn = now.on.cellsWithTwo();
            oneOn = someOn & ~twoOn;
            needed = now.must | someOn;
        }

        private boolean doCell() {
            long bad = now.on.cellsWithThree() | (now.barred & someOn)
                | ((now.must | oneOn) & ~notOff.cellsWithTwo());
            return bad != 0 && wrongAt(STEP_CELL, least(bad));
        }

        private boolean doFull() {
            long full = (twoOn | now.barred) & open.cellsWithOne();
            return full != 0 && setOpenEdgesOf(STEP_FULL, least(full), false);
        }

        private boolean doAlone() {
            long alone = open.cellsWithOne() & ~open.cellsWithTwo() & ~needed;
            return alone != 0 && setOpenEdgesOf(STEP_ALONE, least(alone), false);
        }

        private boolean doForced() {
            long two = notOff.cellsWithTwo() & ~notOff.cellsWithThree();
            long forced = (now.must | oneOn) & two & open.cellsWithOne();
            return forced != 0 && setOpenEdgesOf(STEP_FORCED, least(forced), true);
        }

        // No cell has three edges ON here, or CELL would be the step: what ON edges join is a path or a loop.
        private boolean doClosed() {
            long left = someOn;
            for (int i = 0; i < grid.cellCount && left != 0; i++) {
                int first = least(left);
                long joined = now.on.reach(only(first));
                boolean isLoop = (joined & ~twoOn) == 0;
                if (isLoop && leavesOut(joined)) {
                    return wrongAt(STEP_CLOSED, first);
                }
                left &= ~joined;
            }
            return false;
        }

        private boolean doEarly() {
            spare.right = open.right & oneOn & (oneOn >>> 1);
            spare.below = open.below & oneOn & (oneOn >>> grid.width);
            for (int edge = 0; edge < grid.edgeNumbers; edge++) {
                if (spare.has(edge) && closesEarly(edge)) {
                    return setOneEdge(STEP_EARLY, edge, edge, false);
                }
            }
            return false;
        }

        private boolean closesEarly(int edge) {
            long path = now.on.reach(only(Grid.lesserEnd(edge)));
            return holds(path, grid.greaterEnd(edge)) && leavesOut(path);
        }

        // An edge ON that is not of a path or a loop has its cells outside of it, and these are needed.
        private boolean leavesOut(long joined) {
            return (needed & ~joined) != 0;
        }

        private boolean doBorder() {
            int borders = grid.borderCount();
            for (int border = 0; border < borders; border++) {
                boolean upright = border < grid.width - 1;
                long line = upright ? grid.column(border) : grid.row(border - grid.width + 1);
                long lineOn = line & (upright ? now.on.right : now.on.below);
                long lineOpen = line & (upright ? open.right : open.below);
                boolean odd = (Long.bitCount(lineOn) & 1) != 0;
                if (lineOpen == 0 && odd) {
                    return wrongAt(STEP_BORDER, border);
                }
                if (Long.bitCount(lineOpen) == 1) {
                    int edge = 2 * least(lineOpen) + (upright ? 0 : 1);
                    return setOneEdge(STEP_BORDER, border, edge, odd);
                }
            }
            return false;
        }

        private boolean doBridge() {
            for (int edge = 0; edge < grid.edgeNumbers; edge++) {
                if (notOff.has(edge) && isBridge(edge)) {
                    return now.on.has(edge)
                        ? wrongAt(STEP_BRIDGE, edge)
                        : setOneEdge(STEP_BRIDGE, edge, edge, false);
                }
            }
            return false;
        }

        private boolean isBridge(int edge) {
            spare.copy(notOff);
            spare.remove(edge);
            return !spare.joins(Grid.lesserEnd(edge), grid.greaterEnd(edge));
        }

        private boolean doApart() {
            if (needed == 0) {
                return false;
            }
            long part = notOff.reach(only(least(needed)));
            long bad = needed & ~part;
            if (bad != 0) {
                return wrongAt(STEP_APART, least(bad));
            }
            for (int edge = 0; edge < grid.edgeNumbers; edge++) {
                if (open.has(edge) && !holds(part, Grid.lesserEnd(edge))) {
                    return setOneEdge(STEP_APART, edge, edge, false);
                }
            }
            return false;
        }

        private boolean doMany() {
            if (now.told == NONE) {
                return false;
            }
            int black = Long.bitCount(now.black);
            int notWhite = Long.bitCount(grid.cells & ~now.white);
            if (black > now.told || notWhite < now.told) {
                return wrongAt(STEP_MANY, 0);
            }
            if (black == notWhite || (black != now.told && notWhite != now.told)) {
                return false;
            }
            return setOpenShades(notWhite == now.told);
        }

        private boolean doParts() {
            if (now.black == 0) {
                return false;
            }
            long part = shadePart(least(now.black), grid.cells & ~now.white);
            long bad = now.black & ~part;
            if (bad != 0) {
                return wrongAt(STEP_PARTS, least(bad));
            }
            long outside = openShades() & ~part;
            return outside != 0 && setOneShade(STEP_PARTS, least(outside), false);
        }

        private boolean doCut() {
            if (now.black == 0) {
                return false;
            }
            long opens = openShades();
            for (int cell = 0; cell < grid.cellCount; cell++) {
                if (holds(opens, cell) && cutsBlack(cell)) {
                    return setOneShade(STEP_CUT, cell, true);
                }
            }
            return false;
        }

        private boolean cutsBlack(int cell) {
            long part = shadePart(least(now.black), grid.cells & ~now.white & ~only(cell));
            return (now.black & ~part) != 0;
        }

        private long shadePart(int from, long within) {
            spare.right = grid.all.right & within & (within >>> 1);
            spare.below = grid.all.below & within & (within >>> grid.width);
            return spare.reach(only(from));
        }

        private long openShades() {
            return grid.cells & ~now.black & ~now.white;
        }

        private boolean wrongAt(int number, int place) {
            log.begin(number, place);
            now.wrong = true;
            return true;
        }

        private boolean setOpenEdgesOf(int number, int cell, boolean toOn) {
            log.begin(number, cell);
            for (int direction = 0; direction < Grid.DIRECTIONS; direction++) {
                int edge = grid.edgeOf(cell, direction);
                if (edge != NONE && open.has(edge)) {
                    changeEdge(edge, toOn);
                }
            }
            return true;
        }

        private boolean setOneEdge(int number, int place, int edge, boolean toOn) {
            log.begin(number, place);
            changeEdge(edge, toOn);
            return true;
        }

        private void changeEdge(int edge, boolean toOn) {
            now.setEdge(edge, toOn);
            log.addChange(edge, toOn);
        }

        private boolean setOpenShades(boolean toBlack) {
            log.begin(STEP_MANY, 0);
            long opens = openShades();
            for (int cell = 0; cell < grid.cellCount; cell++) {
                if (holds(opens, cell)) {
                    changeShade(cell, toBlack);
                }
            }
            return true;
        }

        private boolean setOneShade(int number, int cell, boolean toBlack) {
            log.begin(number, cell);
            changeShade(cell, toBlack);
            return true;
        }

        private void changeShade(int cell, boolean toBlack) {
            now.setShade(cell, toBlack);
            log.addChange(cell, toBlack);
        }
    }
}
