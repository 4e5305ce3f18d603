import java.util.ArrayList;
import java.util.Arrays;
import java.util.List;

/**
 * The document read word by word, without a thought for speed, to compare LoopRegions with.
 * It shares no code and no way of holding the state with it.
 */
final class PlainModel {
    final int w;
    final int h;
    int[] edges;
    int[] edgeReasons;
    int[] duties;
    int[] shades;
    int[] shadeReasons;
    int told = -1;
    boolean wrong = false;
    List<int[]> steps = new ArrayList<>();
    private final List<PlainModel> marks = new ArrayList<>();

    PlainModel(int width, int height) {
        w = width < 1 ? 1 : width > 8 ? 8 : width;
        h = height < 1 ? 1 : height > 8 ? 8 : height;
        edges = new int[2 * w * h];
        edgeReasons = new int[2 * w * h];
        duties = new int[w * h];
        shades = new int[w * h];
        shadeReasons = new int[w * h];
        Arrays.fill(edgeReasons, -1);
        Arrays.fill(shadeReasons, -1);
    }

    int size() {
        return w * h;
    }

    boolean isEdge(int e) {
        if (e < 0 || e >= 2 * w * h) {
            return false;
        }
        int x = e / 2 % w;
        int y = e / 2 / w;
        return e % 2 == 0 ? x + 1 < w : y + 1 < h;
    }

    boolean isCell(int c) {
        return c >= 0 && c < w * h;
    }

    private void needEdge(int e) {
        if (!isEdge(e)) {
            throw new ArrayIndexOutOfBoundsException();
        }
    }

    private void needCell(int c) {
        if (!isCell(c)) {
            throw new ArrayIndexOutOfBoundsException();
        }
    }

    int end(int e, boolean greater) {
        needEdge(e);
        return !greater ? e / 2 : e % 2 == 0 ? e / 2 + 1 : e / 2 + w;
    }

    boolean edge(int e, boolean on) {
        needEdge(e);
        if (edges[e] != 0) {
            return false;
        }
        edges[e] = on ? 1 : 2;
        wrong = false;
        return true;
    }

    boolean duty(int c, int d) {
        needCell(c);
        if (d < 0 || d > 2) {
            throw new IllegalArgumentException();
        }
        if (duties[c] == d) {
            return false;
        }
        duties[c] = d;
        wrong = false;
        return true;
    }

    boolean shade(int c, boolean black) {
        needCell(c);
        if (shades[c] != 0) {
            return false;
        }
        shades[c] = black ? 1 : 2;
        wrong = false;
        return true;
    }

    void told(int n) {
        if (n < -1 || n > 64) {
            throw new IllegalArgumentException();
        }
        told = n;
        wrong = false;
    }

    int is(int e) {
        needEdge(e);
        return edges[e];
    }

    int reason(int e) {
        needEdge(e);
        return edgeReasons[e];
    }

    int cell(int c, int what) {
        needCell(c);
        switch (what) {
            case 0: return shades[c];
            case 1: return duties[c];
            case 2: return count(c, 1);
            case 3: return count(c, 0);
            case 4: return shadeReasons[c];
            default: return -1;
        }
    }

    int step(int k, int what) {
        if (k < 0 || k >= steps.size() || what < 0) {
            throw new IndexOutOfBoundsException();
        }
        int[] s = steps.get(k);
        return what < s.length ? s[what] : -1;
    }

    int mark() {
        if (marks.size() == 12) {
            return -1;
        }
        PlainModel copy = new PlainModel(w, h);
        copy.take(this);
        marks.add(copy);
        return marks.size() - 1;
    }

    boolean back(int mark) {
        if (mark < 0 || mark >= marks.size()) {
            return false;
        }
        take(marks.get(mark));
        while (marks.size() > mark) {
            marks.remove(marks.size() - 1);
        }
        return true;
    }

    private void take(PlainModel other) {
        edges = other.edges.clone();
        edgeReasons = other.edgeReasons.clone();
        duties = other.duties.clone();
        shades = other.shades.clone();
        shadeReasons = other.shadeReasons.clone();
        told = other.told;
        wrong = other.wrong;
        steps = new ArrayList<>(other.steps);
    }

    int run() {
        int done = 0;
        while (!wrong) {
            int[] step = find();
            if (step == null) {
                break;
            }
            carryOut(step);
            done++;
        }
        return done;
    }

    private void carryOut(int[] s) {
        for (int i = 3; i < s.length; i++) {
            boolean yes = s[i] % 2 == 1;
            if (s[0] >= 10) {
                shades[s[i] / 2] = yes ? 1 : 2;
                shadeReasons[s[i] / 2] = steps.size();
            } else {
                edges[s[i] / 2] = yes ? 1 : 2;
                edgeReasons[s[i] / 2] = steps.size();
            }
        }
        if (s[2] == 0) {
            wrong = true;
        }
        steps.add(s);
    }

    /** The first step at its first place, as step() tells it, or null. */
    private int[] find() {
        for (int number = 1; number <= 12; number++) {
            int[] s = number <= 4 ? findAtCells(number)
                : number == 5 ? findClosed() : number == 6 ? findEarly() : number == 7 ? findBorder()
                : number == 8 ? findBridge() : number == 9 ? findApart() : number == 10 ? findMany()
                : number == 11 ? findParts() : findCut();
            if (s != null) {
                return s;
            }
        }
        return null;
    }

    private static int[] made(int number, int place, List<Integer> changes) {
        int[] s = new int[3 + changes.size()];
        s[0] = number;
        s[1] = place;
        s[2] = changes.size();
        for (int i = 0; i < changes.size(); i++) {
            s[3 + i] = changes.get(i);
        }
        return s;
    }

    private static int[] wrongAt(int number, int place) {
        return made(number, place, List.of());
    }

    private static int[] one(int number, int place, int thing, boolean yes) {
        return made(number, place, List.of(2 * thing + (yes ? 1 : 0)));
    }

    /** The edges of a cell: above, to the right, below, to the left. */
    private List<Integer> around(int c) {
        List<Integer> list = new ArrayList<>();
        int x = c % w;
        int y = c / w;
        if (y > 0) {
            list.add(2 * (c - w) + 1);
        }
        if (x < w - 1) {
            list.add(2 * c);
        }
        if (y < h - 1) {
            list.add(2 * c + 1);
        }
        if (x > 0) {
            list.add(2 * (c - 1));
        }
        return list;
    }

    private int count(int c, int state) {
        int n = 0;
        for (int e : around(c)) {
            n += edges[e] == state ? 1 : 0;
        }
        return n;
    }

    private int[] openOf(int number, int c, boolean on) {
        List<Integer> changes = new ArrayList<>();
        for (int e : around(c)) {
            if (edges[e] == 0) {
                changes.add(2 * e + (on ? 1 : 0));
            }
        }
        return made(number, c, changes);
    }

    private int[] findAtCells(int number) {
        for (int c = 0; c < w * h; c++) {
            int on = count(c, 1);
            int open = count(c, 0);
            boolean must = duties[c] == 1;
            boolean barred = duties[c] == 2;
            if (number == 1 && (on >= 3 || barred && on > 0 || (must || on == 1) && on + open < 2)) {
                return wrongAt(1, c);
            }
            if (number == 2 && (on == 2 || barred) && open > 0) {
                return openOf(2, c, false);
            }
            if (number == 3 && !must && on == 0 && open == 1) {
                return openOf(3, c, false);
            }
            if (number == 4 && (must || on == 1) && on + open == 2 && open > 0) {
                return openOf(4, c, true);
            }
        }
        return null;
    }

    private int other(int e, int c) {
        return end(e, false) == c ? end(e, true) : end(e, false);
    }

    /** Walks along edges that are ON from a cell, by an edge, until it stops or is where it began: the edges walked. */
    private List<Integer> walk(int from, int by) {
        List<Integer> walked = new ArrayList<>();
        int at = from;
        int e = by;
        while (true) {
            walked.add(e);
            at = other(e, at);
            if (at == from) {
                return walked;
            }
            int next = -1;
            for (int f : around(at)) {
                if (edges[f] == 1 && f != e) {
                    next = f;
                }
            }
            if (next < 0) {
                return walked;
            }
            e = next;
        }
    }

    private int walkEnd(int from, List<Integer> walked) {
        int at = from;
        for (int e : walked) {
            at = other(e, at);
        }
        return at;
    }

    private boolean moreThan(int from, List<Integer> walked) {
        for (int e = 0; e < edges.length; e++) {
            if (edges[e] == 1 && !walked.contains(e)) {
                return true;
            }
        }
        List<Integer> cells = new ArrayList<>(List.of(from));
        int at = from;
        for (int e : walked) {
            at = other(e, at);
            cells.add(at);
        }
        for (int c = 0; c < w * h; c++) {
            if (duties[c] == 1 && !cells.contains(c)) {
                return true;
            }
        }
        return false;
    }

    private int firstOn(int c) {
        for (int e : around(c)) {
            if (edges[e] == 1) {
                return e;
            }
        }
        return -1;
    }

    private int[] findClosed() {
        for (int c = 0; c < w * h; c++) {
            if (count(c, 1) == 2) {
                List<Integer> walked = walk(c, firstOn(c));
                if (walkEnd(c, walked) == c && moreThan(c, walked)) {
                    return wrongAt(5, c);
                }
            }
        }
        return null;
    }

    private int[] findEarly() {
        for (int e = 0; e < edges.length; e++) {
            if (!isEdge(e) || edges[e] != 0) {
                continue;
            }
            int from = end(e, false);
            if (count(from, 1) == 1 && count(end(e, true), 1) == 1) {
                List<Integer> walked = walk(from, firstOn(from));
                if (walkEnd(from, walked) == end(e, true) && moreThan(from, walked)) {
                    return one(6, e, e, false);
                }
            }
        }
        return null;
    }

    private int[] findBorder() {
        for (int b = 0; b <= w + h - 3; b++) {
            int on = 0;
            int open = 0;
            int last = -1;
            for (int c = 0; c < w * h; c++) {
                boolean columns = b <= w - 2;
                int e = columns ? 2 * c : 2 * c + 1;
                boolean here = columns ? c % w == b : c / w == b - w + 1;
                if (here && edges[e] == 1) {
                    on++;
                }
                if (here && edges[e] == 0) {
                    open++;
                    last = e;
                }
            }
            if (open == 0 && on % 2 == 1) {
                return wrongAt(7, b);
            }
            if (open == 1) {
                return one(7, b, last, on % 2 == 1);
            }
        }
        return null;
    }

    /** The part (by edges) of a cell, as if one edge were not there. */
    private boolean[] part(int from, int without) {
        boolean[] seen = new boolean[w * h];
        visit(from, without, seen);
        return seen;
    }

    private void visit(int c, int without, boolean[] seen) {
        seen[c] = true;
        for (int e : around(c)) {
            if (edges[e] != 2 && e != without && !seen[other(e, c)]) {
                visit(other(e, c), without, seen);
            }
        }
    }

    private int[] findBridge() {
        for (int e = 0; e < edges.length; e++) {
            if (isEdge(e) && edges[e] != 2 && !part(end(e, false), e)[end(e, true)]) {
                return edges[e] == 1 ? wrongAt(8, e) : one(8, e, e, false);
            }
        }
        return null;
    }

    private boolean needs(int c) {
        return duties[c] == 1 || count(c, 1) > 0;
    }

    private int[] findApart() {
        boolean[] part = null;
        for (int c = 0; c < w * h; c++) {
            if (needs(c) && part == null) {
                part = part(c, -1);
            }
            if (needs(c) && !part[c]) {
                return wrongAt(9, c);
            }
        }
        for (int e = 0; e < edges.length && part != null; e++) {
            if (isEdge(e) && edges[e] == 0 && !part[end(e, false)] && !part[end(e, true)]) {
                return one(9, e, e, false);
            }
        }
        return null;
    }

    private int shadeCount(int shade) {
        int n = 0;
        for (int s : shades) {
            n += s == shade ? 1 : 0;
        }
        return n;
    }

    private int[] findMany() {
        if (told == -1) {
            return null;
        }
        int black = shadeCount(1);
        int open = shadeCount(0);
        if (black > told || black + open < told) {
            return wrongAt(10, 0);
        }
        if (open == 0 || black != told && black + open != told) {
            return null;
        }
        List<Integer> changes = new ArrayList<>();
        for (int c = 0; c < w * h; c++) {
            if (shades[c] == 0) {
                changes.add(2 * c + (black == told ? 0 : 1));
            }
        }
        return made(10, 0, changes);
    }

    private void visitShades(int c, int without, boolean[] seen) {
        seen[c] = true;
        for (int e : around(c)) {
            int d = other(e, c);
            if (d != without && shades[d] != 2 && !seen[d]) {
                visitShades(d, without, seen);
            }
        }
    }

    private boolean[] blackPart(int without) {
        for (int c = 0; c < w * h; c++) {
            if (shades[c] == 1) {
                boolean[] seen = new boolean[w * h];
                visitShades(c, without, seen);
                return seen;
            }
        }
        return null;
    }

    private int[] findParts() {
        boolean[] part = blackPart(-1);
        if (part == null) {
            return null;
        }
        for (int c = 0; c < w * h; c++) {
            if (shades[c] == 1 && !part[c]) {
                return wrongAt(11, c);
            }
        }
        for (int c = 0; c < w * h; c++) {
            if (shades[c] == 0 && !part[c]) {
                return one(11, c, c, false);
            }
        }
        return null;
    }

    private int[] findCut() {
        for (int c = 0; c < w * h; c++) {
            boolean[] part = shades[c] == 0 ? blackPart(c) : null;
            for (int d = 0; d < w * h && part != null; d++) {
                if (shades[d] == 1 && !part[d]) {
                    return one(12, c, c, true);
                }
            }
        }
        return null;
    }
}
