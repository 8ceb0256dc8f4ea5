import java.util.ArrayList;
import java.util.List;

/**
 * The document in its plainest form, slow, to compare with. Whether a space has something is found by
 * eliminating one name after the other (Fourier and Motzkin), which shares nothing with the class.
 */
final class Reference {
    private static final int NONE = -1, UNKNOWN = -2, OUTSIDE = -3, ROOM = -4, LOST = -5;

    private static final class Way {
        final List<int[]> rows = new ArrayList<>();
        final int[][] factors = {{1, 0, 0}, {0, 1, 0}, {0, 0, 1}};
        final int[] constants = new int[3];
    }

    private static final class Loop {
        int names;
        final List<int[]> guard = new ArrayList<>();
        final List<Way> ways = new ArrayList<>();
        long[] state = new long[3];
    }

    /** a, b, c times the names are d or more; more than d, if strict. */
    private static final class Bound {
        final long[] n;
        final boolean strict;

        Bound(boolean strict, long... n) {
            this.n = n;
            this.strict = strict;
        }
    }

    private final List<Loop> loops = new ArrayList<>();
    private List<int[]> proof = new ArrayList<>();
    private int left;
    private int[] need;

    // Spaces

    private static boolean solvable(List<Bound> bounds) {
        List<Bound> rest = bounds;
        for (int name = 0; name < 3; name++) {
            List<Bound> next = new ArrayList<>();
            for (Bound one : rest) {
                if (one.n[name] == 0) {
                    next.add(one);
                }
                for (Bound other : rest) {
                    if (one.n[name] > 0 && other.n[name] < 0) {
                        next.add(sum(one, -other.n[name], other, one.n[name]));
                    }
                }
            }
            rest = next;
        }
        for (Bound bound : rest) {
            if (bound.strict ? bound.n[3] >= 0 : bound.n[3] > 0) {
                return false;
            }
        }
        return true;
    }

    private static Bound sum(Bound one, long times, Bound other, long otherTimes) {
        long[] n = new long[4];
        long common = 0;
        for (int k = 0; k < 4; k++) {
            n[k] = Math.addExact(Math.multiplyExact(one.n[k], times), Math.multiplyExact(other.n[k], otherTimes));
            common = common(common, Math.abs(n[k]));
        }
        for (int k = 0; common > 1 && k < 4; k++) {
            n[k] /= common;
        }
        return new Bound(one.strict || other.strict, n);
    }

    private static long common(long a, long b) {
        return b == 0 ? a : common(b, a % b);
    }

    private static List<Bound> space(Loop loop, Way way, int[] more) {
        List<Bound> bounds = new ArrayList<>();
        List<int[]> rows = new ArrayList<>(loop.guard);
        rows.addAll(way.rows);
        if (more != null) {
            rows.add(more);
        }
        for (int[] row : rows) {
            bounds.add(new Bound(false, row[0], row[1], row[2], row[3]));
        }
        return bounds;
    }

    /** Everywhere d or more: nowhere less. */
    private static boolean everywhere(List<Bound> space, long a, long b, long c, long d) {
        List<Bound> bounds = new ArrayList<>(space);
        bounds.add(new Bound(true, -a, -b, -c, -d));
        return !solvable(bounds);
    }

    /** Bounded, if there is nothing at all, or no direction of the space in which it falls. */
    private static boolean bounded(List<Bound> space, int t, int u, int v) {
        if (!solvable(space)) {
            return true;
        }
        List<Bound> directions = new ArrayList<>();
        for (Bound bound : space) {
            directions.add(new Bound(false, bound.n[0], bound.n[1], bound.n[2], 0));
        }
        directions.add(new Bound(true, -t, -u, -v, 0));
        return !solvable(directions);
    }

    private static boolean falls(List<Bound> space, Way way, int[] term, int by) {
        long[] n = new long[3];
        long constant = 0;
        for (int name = 0; name < 3; name++) {
            n[name] += term[name];
            for (int other = 0; other < 3; other++) {
                n[other] -= (long) term[name] * way.factors[name][other];
            }
            constant += (long) term[name] * way.constants[name];
        }
        return everywhere(space, n[0], n[1], n[2], by + constant);
    }

    private static int marks(List<Bound> space, Way way, int t, int u, int v) {
        int[] term = {t, u, v};
        return (bounded(space, t, u, v) ? 1 : 0) + (falls(space, way, term, 0) ? 2 : 0)
                + (falls(space, way, term, 1) ? 4 : 0);
    }

    // Proofs

    private static int search(Loop loop, int[] more, List<int[]> found) {
        int left = (1 << loop.ways.size()) - 1;
        boolean again = true;
        while (again && left != 0) {
            again = false;
            for (int i = 0; i < 125 && !again; i++) {
                int t = i / 25 - 2;
                int u = i / 5 % 5 - 2;
                int v = i % 5 - 2;
                int taken = fits(loop.names, t, u, v, 2) ? taken(loop, more, left, t, u, v) : 0;
                if (taken != 0) {
                    found.add(new int[] {t, u, v, taken});
                    left &= ~taken;
                    again = true;
                }
            }
        }
        return left;
    }

    private static int taken(Loop loop, int[] more, int left, int t, int u, int v) {
        int taken = 0;
        int[] term = {t, u, v};
        for (int w = 0; w < loop.ways.size(); w++) {
            if ((left >> w & 1) != 0) {
                Way way = loop.ways.get(w);
                List<Bound> space = space(loop, way, more);
                if (!falls(space, way, term, 0)) {
                    return 0;
                }
                if (falls(space, way, term, 1) && bounded(space, t, u, v)) {
                    taken |= 1 << w;
                }
            }
        }
        return taken;
    }

    private static boolean lasts(Loop loop, int[] row) {
        for (Way way : loop.ways) {
            long[] n = new long[3];
            long d = row[3];
            for (int name = 0; name < 3; name++) {
                for (int other = 0; other < 3; other++) {
                    n[other] += (long) row[name] * way.factors[name][other];
                }
                d -= (long) row[name] * way.constants[name];
            }
            if (!everywhere(space(loop, way, row), n[0], n[1], n[2], d)) {
                return false;
            }
        }
        return true;
    }

    private static int[] findNeed(Loop loop) {
        for (int i = 0; i < 135; i++) {
            int[] row = {i / 45 - 1, i / 15 % 3 - 1, i / 5 % 3 - 1, i % 5 - 2};
            if (fits(loop.names, row[0], row[1], row[2], 1) && lasts(loop, row)
                    && search(loop, row, new ArrayList<>()) == 0) {
                return row;
            }
        }
        return null;
    }

    // Bounds of arguments

    private static boolean fits(int names, int a, int b, int c, int most) {
        int[] n = {a, b, c};
        boolean some = false;
        for (int i = 0; i < 3; i++) {
            if (n[i] < -most || n[i] > most || i >= names && n[i] != 0) {
                return false;
            }
            some |= n[i] != 0;
        }
        return some;
    }

    private Loop loopAt(int loop) {
        return loop < 0 || loop >= loops.size() ? null : loops.get(loop);
    }

    private Way wayAt(int loop, int way) {
        Loop l = loopAt(loop);
        return l == null || way < 0 || way >= l.ways.size() ? null : l.ways.get(way);
    }

    private boolean named(int loop, int name) {
        Loop l = loopAt(loop);
        return l != null && name >= 0 && name < l.names;
    }

    private static boolean rowFits(Loop loop, int a, int b, int c, int d) {
        return fits(loop.names, a, b, c, 9) && d >= -1000 && d <= 1000;
    }

    // The walk

    private static boolean rowsHold(List<int[]> rows, long[] s) {
        for (int[] row : rows) {
            if (row[0] * s[0] + row[1] * s[1] + row[2] * s[2] < row[3]) {
                return false;
            }
        }
        return true;
    }

    private static boolean isOpen(Loop loop, Way way, long[] s) {
        return rowsHold(loop.guard, s) && rowsHold(way.rows, s);
    }

    /** The next state; null: lost. */
    private static long[] behind(Way way, long[] s) {
        long[] next = new long[3];
        for (int name = 0; name < 3; name++) {
            int[] f = way.factors[name];
            next[name] = f[0] * s[0] + f[1] * s[1] + f[2] * s[2] + way.constants[name];
            if (Math.abs(next[name]) > 1000000000000L) {
                return null;
            }
        }
        return next;
    }

    private static Way firstOpen(Loop loop, long[] s) {
        for (Way way : loop.ways) {
            if (isOpen(loop, way, s)) {
                return way;
            }
        }
        return null;
    }

    private static int comesBack(Loop loop, long[] from) {
        long[] s = from;
        for (int gone = 1; gone <= 200; gone++) {
            Way way = firstOpen(loop, s);
            s = way == null ? null : behind(way, s);
            if (s == null) {
                return 0;
            }
            if (java.util.Arrays.equals(s, from)) {
                return gone;
            }
        }
        return 0;
    }

    // The face

    int loop(int names) {
        if (names < 1 || names > 3) {
            return OUTSIDE;
        }
        if (loops.size() == 8) {
            return ROOM;
        }
        Loop loop = new Loop();
        loop.names = names;
        loops.add(loop);
        return loops.size() - 1;
    }

    int clear() {
        int before = loops.size();
        loops.clear();
        proof = new ArrayList<>();
        left = 0;
        return before;
    }

    int guard(int loop, int a, int b, int c, int d) {
        Loop l = loopAt(loop);
        return l == null ? UNKNOWN : append(l, l.guard, 4, a, b, c, d);
    }

    private static int append(Loop l, List<int[]> rows, int most, int a, int b, int c, int d) {
        if (!rowFits(l, a, b, c, d)) {
            return OUTSIDE;
        }
        if (rows.size() == most) {
            return ROOM;
        }
        rows.add(new int[] {a, b, c, d});
        return rows.size();
    }

    int way(int loop) {
        Loop l = loopAt(loop);
        if (l == null) {
            return UNKNOWN;
        }
        if (l.ways.size() == 3) {
            return ROOM;
        }
        l.ways.add(new Way());
        return l.ways.size() - 1;
    }

    int row(int loop, int way, int a, int b, int c, int d) {
        Way w = wayAt(loop, way);
        return w == null ? UNKNOWN : append(loopAt(loop), w.rows, 2, a, b, c, d);
    }

    int factor(int loop, int way, int name, int other, int v) {
        Way w = wayAt(loop, way);
        if (w == null || !named(loop, name) || !named(loop, other)) {
            return UNKNOWN;
        }
        if (v < -3 || v > 3) {
            return OUTSIDE;
        }
        int before = w.factors[name][other];
        w.factors[name][other] = v;
        return before + 3;
    }

    int constant(int loop, int way, int name, int v) {
        Way w = wayAt(loop, way);
        if (w == null || !named(loop, name)) {
            return UNKNOWN;
        }
        if (v < -99 || v > 99) {
            return OUTSIDE;
        }
        int before = w.constants[name];
        w.constants[name] = v;
        return before + 99;
    }

    int told(int loop, int what) {
        Loop l = loopAt(loop);
        if (l == null) {
            return UNKNOWN;
        }
        return what == 0 ? l.names : what == 1 ? l.ways.size() : what == 2 ? l.guard.size() : OUTSIDE;
    }

    int empty(int loop, int way) {
        Way w = wayAt(loop, way);
        return w == null ? UNKNOWN : solvable(space(loopAt(loop), w, null)) ? 0 : 1;
    }

    int holds(int loop, int way, int a, int b, int c, int d) {
        Way w = wayAt(loop, way);
        if (w == null) {
            return UNKNOWN;
        }
        if (!rowFits(loopAt(loop), a, b, c, d)) {
            return OUTSIDE;
        }
        return everywhere(space(loopAt(loop), w, null), a, b, c, d) ? 1 : 0;
    }

    int term(int loop, int way, int t, int u, int v) {
        Way w = wayAt(loop, way);
        if (w == null) {
            return UNKNOWN;
        }
        return fits(loopAt(loop).names, t, u, v, 2) ? marks(space(loopAt(loop), w, null), w, t, u, v) : OUTSIDE;
    }

    int prove(int loop) {
        Loop l = loopAt(loop);
        if (l == null) {
            return UNKNOWN;
        }
        proof = new ArrayList<>();
        left = search(l, null, proof);
        return left == 0 ? 1 : 0;
    }

    int proof(int k, int what) {
        return k < 0 || k >= proof.size() || what < 0 || what > 3 ? -1000 : proof.get(k)[what];
    }

    int left() {
        return left;
    }

    int need(int loop) {
        Loop l = loopAt(loop);
        if (l == null) {
            return UNKNOWN;
        }
        need = null;
        if (search(l, null, new ArrayList<>()) == 0) {
            return 2;
        }
        need = findNeed(l);
        return need == null ? 0 : 1;
    }

    int needed(int i) {
        return need == null || i < 0 || i > 3 ? -1000 : need[i];
    }

    int put(int loop, int name, int v) {
        if (!named(loop, name)) {
            return UNKNOWN;
        }
        if (v < -1000000 || v > 1000000) {
            return OUTSIDE;
        }
        loopAt(loop).state[name] = v;
        return 1;
    }

    long at(int loop, int name) {
        return named(loop, name) ? loopAt(loop).state[name] : -9000000000000L;
    }

    int open(int loop) {
        Loop l = loopAt(loop);
        if (l == null) {
            return UNKNOWN;
        }
        int bits = 0;
        for (int w = 0; w < l.ways.size(); w++) {
            bits |= isOpen(l, l.ways.get(w), l.state) ? 1 << w : 0;
        }
        return bits;
    }

    int step(int loop) {
        Loop l = loopAt(loop);
        if (l == null) {
            return UNKNOWN;
        }
        Way way = firstOpen(l, l.state);
        if (way == null) {
            return NONE;
        }
        return go(loop, l.ways.indexOf(way)) == LOST ? LOST : l.ways.indexOf(way);
    }

    int go(int loop, int way) {
        Way w = wayAt(loop, way);
        if (w == null) {
            return UNKNOWN;
        }
        Loop l = loopAt(loop);
        if (!isOpen(l, w, l.state)) {
            return 0;
        }
        long[] next = behind(w, l.state);
        if (next == null) {
            return LOST;
        }
        l.state = next;
        return 1;
    }

    int walk(int loop, int n) {
        if (loopAt(loop) == null) {
            return UNKNOWN;
        }
        if (n < 0 || n > 1000) {
            return OUTSIDE;
        }
        int gone = 0;
        while (gone < n && step(loop) >= 0) {
            gone++;
        }
        return gone;
    }

    int ring(int loop, int size) {
        Loop l = loopAt(loop);
        if (l == null) {
            return UNKNOWN;
        }
        if (size < 0 || size > 6) {
            return OUTSIDE;
        }
        for (int x = -size; x <= size; x++) {
            for (int y = l.names > 1 ? -size : 0; y <= (l.names > 1 ? size : 0); y++) {
                for (int z = l.names > 2 ? -size : 0; z <= (l.names > 2 ? size : 0); z++) {
                    long[] from = {x, y, z};
                    int length = comesBack(l, from);
                    if (length != 0) {
                        l.state = from;
                        return length;
                    }
                }
            }
        }
        return 0;
    }

    int loops() {
        return loops.size();
    }
}
