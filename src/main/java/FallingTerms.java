/**
 * Loops over whole numbers, judged: terms that fall, what a start needs, walks and rings.
 *
 * All rows, spaces and states are made once, in the constructor, and used again by every call,
 * so that no call makes an object.
 */
public final class FallingTerms {
    public static final int NONE = -1, UNKNOWN = -2, OUTSIDE = -3, ROOM = -4, LOST = -5;

    private static final int MOST_LOOPS = 8;
    private static final int MOST_NAMES = 3;
    private static final int MOST_WAYS = 3;
    private static final int MOST_GUARD_ROWS = 4;
    private static final int MOST_WAY_ROWS = 2;
    /** Numbers of a row (a, b, c, d), and of a line or ray of a space. */
    private static final int WIDTH = 4;

    private static final int MOST_WEIGHT = 9;
    private static final int MOST_SUM = 1000;
    private static final int MOST_FACTOR = 3;
    private static final int MOST_CONSTANT = 99;
    private static final int MOST_IN_TERM = 2;
    private static final int MOST_NEED_WEIGHT = 1;
    private static final int MOST_NEED_SUM = 2;
    private static final int MOST_PUT = 1000000;
    private static final int MOST_WALK = 1000;
    private static final int MOST_RING_SIZE = 6;
    private static final int MOST_RING = 200;
    private static final long MOST_IN_STATE = 1000000000000L;

    private static final int NONE_SUCH = -1000;
    private static final long NO_NUMBER = -9000000000000L;

    private static final int BOUNDED = 1, STAYS = 2, FALLS = 4;

    private final Loop[] made = new Loop[MOST_LOOPS];
    private int madeCount;
    /** The spaces of the ways of the loop that is looked at. */
    private final Space[] spaces = new Space[MOST_WAYS];
    /** The same spaces with a row more, while a need is looked for. */
    private final Space[] narrowed = new Space[MOST_WAYS];
    private final Proof latest = new Proof();
    /** need() searches here, because what the latest prove() tells stays. */
    private final Proof trial = new Proof();
    private final int[] needRow = new int[WIDTH];
    private boolean needFound;
    private final long[] start = new long[MOST_NAMES];
    private final long[] now = new long[MOST_NAMES];
    private final long[] mark = new long[MOST_NAMES];

    public FallingTerms() {
        for (int i = 0; i < MOST_LOOPS; i++) {
            made[i] = new Loop();
        }
        for (int i = 0; i < MOST_WAYS; i++) {
            spaces[i] = new Space();
            narrowed[i] = new Space();
        }
    }

    public int loop(int names) {
        if (names < 1 || names > MOST_NAMES) {
            return OUTSIDE;
        }
        if (madeCount >= MOST_LOOPS) {
            return ROOM;
        }
        made[madeCount].begin(names);
        madeCount++;
        return madeCount - 1;
    }

    public int clear() {
        int before = madeCount;
        madeCount = 0;
        latest.forget();
        return before;
    }

    public int guard(int loop, int a, int b, int c, int d) {
        if (!isLoop(loop)) {
            return UNKNOWN;
        }
        if (!rowFits(loop, a, b, c, d)) {
            return OUTSIDE;
        }
        return made[loop].guardRows.append(a, b, c, d);
    }

    public int way(int loop) {
        return isLoop(loop) ? made[loop].appendWay() : UNKNOWN;
    }

    public int row(int loop, int way, int a, int b, int c, int d) {
        if (!isWay(loop, way)) {
            return UNKNOWN;
        }
        if (!rowFits(loop, a, b, c, d)) {
            return OUTSIDE;
        }
        return made[loop].ways[way].rows.append(a, b, c, d);
    }

    public int factor(int loop, int way, int name, int other, int v) {
        if (!isWay(loop, way) || !isName(loop, name) || !isName(loop, other)) {
            return UNKNOWN;
        }
        if (!within(v, MOST_FACTOR)) {
            return OUTSIDE;
        }
        int[] factors = made[loop].ways[way].factors;
        int place = MOST_NAMES * name + other;
        int before = factors[place];
        factors[place] = v;
        return before + MOST_FACTOR;
    }

    public int constant(int loop, int way, int name, int v) {
        if (!isWay(loop, way) || !isName(loop, name)) {
            return UNKNOWN;
        }
        if (!within(v, MOST_CONSTANT)) {
            return OUTSIDE;
        }
        int[] constants = made[loop].ways[way].constants;
        int before = constants[name];
        constants[name] = v;
        return before + MOST_CONSTANT;
    }

    public int told(int loop, int what) {
        if (!isLoop(loop)) {
            return UNKNOWN;
        }
        switch (what) {
            case 0:
                return made[loop].names;
            case 1:
                return made[loop].wayCount;
            case 2:
                return made[loop].guardRows.count;
            default:
                return OUTSIDE;
        }
    }

    public int empty(int loop, int way) {
        if (!isWay(loop, way)) {
            return UNKNOWN;
        }
        return spaceOf(loop, way).hasNothing() ? 1 : 0;
    }

    public int holds(int loop, int way, int a, int b, int c, int d) {
        if (!isWay(loop, way)) {
            return UNKNOWN;
        }
        if (!rowFits(loop, a, b, c, d)) {
            return OUTSIDE;
        }
        return spaceOf(loop, way).implies(a, b, c, d) ? 1 : 0;
    }

    public int term(int loop, int way, int t, int u, int v) {
        if (!isWay(loop, way)) {
            return UNKNOWN;
        }
        if (!weightsFit(made[loop].names, t, u, v, MOST_IN_TERM)) {
            return OUTSIDE;
        }
        Space space = spaceOf(loop, way);
        Way change = made[loop].ways[way];
        return (space.bounds(t, u, v) ? BOUNDED : 0)
                + (change.lessens(space, t, u, v, 0) ? STAYS : 0)
                + (change.lessens(space, t, u, v, 1) ? FALLS : 0);
    }

    public int prove(int loop) {
        if (!isLoop(loop)) {
            return UNKNOWN;
        }
        fillSpaces(made[loop]);
        latest.search(made[loop], spaces);
        return latest.waysLeft == 0 ? 1 : 0;
    }

    public int proof(int k, int what) {
        if (k < 0 || k >= latest.count || what < 0 || what >= WIDTH) {
            return NONE_SUCH;
        }
        return latest.found[WIDTH * k + what];
    }

    public int left() {
        return latest.waysLeft;
    }

    public int need(int loop) {
        if (!isLoop(loop)) {
            return UNKNOWN;
        }
        Loop judged = made[loop];
        needFound = false;
        fillSpaces(judged);
        trial.search(judged, spaces);
        if (trial.waysLeft == 0) {
            return 2;
        }
        int reachB = judged.reach(1, MOST_NEED_WEIGHT);
        int reachC = judged.reach(2, MOST_NEED_WEIGHT);
        for (int a = -MOST_NEED_WEIGHT; a <= MOST_NEED_WEIGHT; a++) {
            for (int b = -reachB; b <= reachB; b++) {
                for (int c = -reachC; c <= reachC; c++) {
                    if ((a != 0 || b != 0 || c != 0) && findNeed(judged, a, b, c)) {
                        return 1;
                    }
                }
            }
        }
        return 0;
    }

    public int needed(int i) {
        return needFound && i >= 0 && i < WIDTH ? needRow[i] : NONE_SUCH;
    }

    public int put(int loop, int name, int v) {
        if (!isName(loop, name)) {
            return UNKNOWN;
        }
        if (!within(v, MOST_PUT)) {
            return OUTSIDE;
        }
        made[loop].state[name] = v;
        return 1;
    }

    public long at(int loop, int name) {
        return isName(loop, name) ? made[loop].state[name] : NO_NUMBER;
    }

    public int open(int loop) {
        return isLoop(loop) ? made[loop].openWays() : UNKNOWN;
    }

    public int step(int loop) {
        return isLoop(loop) ? made[loop].advance(made[loop].state) : UNKNOWN;
    }

    public int go(int loop, int way) {
        if (!isWay(loop, way)) {
            return UNKNOWN;
        }
        Loop moved = made[loop];
        if ((moved.openWays() >> way & 1) == 0) {
            return 0;
        }
        return moved.change(way, moved.state) ? 1 : LOST;
    }

    public int walk(int loop, int n) {
        if (!isLoop(loop)) {
            return UNKNOWN;
        }
        if (n < 0 || n > MOST_WALK) {
            return OUTSIDE;
        }
        Loop moved = made[loop];
        for (int gone = 0; gone < n; gone++) {
            if (moved.advance(moved.state) < 0) {
                return gone;
            }
        }
        return n;
    }

    public int ring(int loop, int size) {
        if (!isLoop(loop)) {
            return UNKNOWN;
        }
        if (size < 0 || size > MOST_RING_SIZE) {
            return OUTSIDE;
        }
        Loop moved = made[loop];
        int reachY = moved.reach(1, size);
        int reachZ = moved.reach(2, size);
        for (int x = -size; x <= size; x++) {
            for (int y = -reachY; y <= reachY; y++) {
                for (int z = -reachZ; z <= reachZ; z++) {
                    int length = ringFrom(moved, x, y, z);
                    if (length > 0) {
                        copyState(start, moved.state);
                        return length;
                    }
                }
            }
        }
        return 0;
    }

    public int loops() {
        return madeCount;
    }

    private boolean isLoop(int loop) {
        return loop >= 0 && loop < madeCount;
    }

    private boolean isWay(int loop, int way) {
        return isLoop(loop) && way >= 0 && way < made[loop].wayCount;
    }

    private boolean isName(int loop, int name) {
        return isLoop(loop) && name >= 0 && name < made[loop].names;
    }

    private boolean rowFits(int loop, int a, int b, int c, int d) {
        return weightsFit(made[loop].names, a, b, c, MOST_WEIGHT) && within(d, MOST_SUM);
    }

    private static boolean weightsFit(int names, int a, int b, int c, int most) {
        boolean small = within(a, most) && within(b, most) && within(c, most);
        boolean named = (b == 0 || names > 1) && (c == 0 || names > 2);
        return small && named && (a != 0 || b != 0 || c != 0);
    }

    /** Two comparisons, because the size of the least int is no int. */
    private static boolean within(int v, int most) {
        return v >= -most && v <= most;
    }

    private static void copyState(long[] from, long[] to) {
        for (int i = 0; i < MOST_NAMES; i++) {
            to[i] = from[i];
        }
    }

    private static boolean sameState(long[] one, long[] other) {
        return one[0] == other[0] && one[1] == other[1] && one[2] == other[2];
    }

    /** For a loop and a way that there are. */
    private Space spaceOf(int loop, int way) {
        spaces[way].fill(made[loop], way);
        return spaces[way];
    }

    private void fillSpaces(Loop judged) {
        for (int way = 0; way < judged.wayCount; way++) {
            spaces[way].fill(judged, way);
        }
    }

    /**
     * The rows with these weights, the lesser sums first. In a lesser space more terms are bounded,
     * stay and fall: where even the greatest sum leaves a way, each lesser one does, and none is tried.
     */
    private boolean findNeed(Loop judged, int a, int b, int c) {
        narrowSpaces(judged, a, b, c, MOST_NEED_SUM);
        trial.search(judged, narrowed);
        if (trial.waysLeft != 0) {
            return false;
        }
        for (int d = -MOST_NEED_SUM; d <= MOST_NEED_SUM; d++) {
            narrowSpaces(judged, a, b, c, d);
            if (!lasts(judged, a, b, c, d)) {
                continue;
            }
            trial.search(judged, narrowed);
            if (trial.waysLeft == 0) {
                keepNeed(a, b, c, d);
                return true;
            }
        }
        return false;
    }

    private void keepNeed(int a, int b, int c, int d) {
        needFound = true;
        needRow[0] = a;
        needRow[1] = b;
        needRow[2] = c;
        needRow[3] = d;
    }

    /** For the row by which the spaces are narrowed: then they are just where it holds. */
    private boolean lasts(Loop judged, int a, int b, int c, int d) {
        for (int way = 0; way < judged.wayCount; way++) {
            if (!judged.ways[way].keeps(narrowed[way], a, b, c, d)) {
                return false;
            }
        }
        return true;
    }

    private void narrowSpaces(Loop judged, int a, int b, int c, int d) {
        for (int way = 0; way < judged.wayCount; way++) {
            narrowed[way].copy(spaces[way]);
            narrowed[way].narrow(a, b, c, d);
        }
    }

    /** Behind how many goings on the walk is at x, y, z again, which stays in start; 0: it is not. */
    private int ringFrom(Loop moved, int x, int y, int z) {
        start[0] = x;
        start[1] = y;
        start[2] = z;
        copyState(start, now);
        copyState(start, mark);
        for (int gone = 1; gone <= MOST_RING; gone++) {
            if (moved.advance(now) < 0) {
                return 0;
            }
            if (sameState(now, start)) {
                return gone;
            }
            // A walk that meets itself elsewhere goes round there for ever, so the rest is spared.
            if (sameState(now, mark)) {
                return 0;
            }
            if ((gone & (gone - 1)) == 0) {
                copyState(now, mark);
            }
        }
        return 0;
    }

    /** Rows a, b, c, d, one behind the other. */
    private static final class Rows {
        private final int[] numbers;
        private final int most;
        private int count;

        Rows(int most) {
            this.most = Math.max(0, most);
            this.numbers = new int[WIDTH * this.most];
        }

        int append(int a, int b, int c, int d) {
            if (count >= most) {
                return ROOM;
            }
            int from = WIDTH * count;
            numbers[from] = a;
            numbers[from + 1] = b;
            numbers[from + 2] = c;
            numbers[from + 3] = d;
            count++;
            return count;
        }

        boolean holdIn(long[] state) {
            for (int i = 0; i < count; i++) {
                int from = WIDTH * i;
                long sum = numbers[from] * state[0] + numbers[from + 1] * state[1]
                        + numbers[from + 2] * state[2];
                if (sum < numbers[from + 3]) {
                    return false;
                }
            }
            return true;
        }
    }

    /** Names that there are not stay 0 by the change that each way has at first. */
    private static final class Way {
        private final Rows rows = new Rows(MOST_WAY_ROWS);
        private final int[] factors = new int[MOST_NAMES * MOST_NAMES];
        private final int[] constants = new int[MOST_NAMES];

        void begin() {
            rows.count = 0;
            for (int name = 0; name < MOST_NAMES; name++) {
                constants[name] = 0;
                for (int other = 0; other < MOST_NAMES; other++) {
                    factors[MOST_NAMES * name + other] = name == other ? 1 : 0;
                }
            }
        }

        /** Whether the change is made: what it makes of a state is in next, if nothing is too great. */
        boolean leads(long[] state, long[] next) {
            for (int name = 0; name < MOST_NAMES; name++) {
                int from = MOST_NAMES * name;
                long v = factors[from] * state[0] + factors[from + 1] * state[1]
                        + factors[from + 2] * state[2] + constants[name];
                if (v > MOST_IN_STATE || v < -MOST_IN_STATE) {
                    return false;
                }
                next[name] = v;
            }
            return true;
        }

        /** How often a name counts in a times, b times, c times the names behind the change. */
        int weightBehind(int a, int b, int c, int name) {
            return a * factors[name] + b * factors[MOST_NAMES + name] + c * factors[2 * MOST_NAMES + name];
        }

        int constantBehind(int a, int b, int c) {
            return a * constants[0] + b * constants[1] + c * constants[2];
        }

        /** Whether everywhere in the space the change makes a term less by so much or more. */
        boolean lessens(Space space, int t, int u, int v, int by) {
            return space.implies(t - weightBehind(t, u, v, 0), u - weightBehind(t, u, v, 1),
                    v - weightBehind(t, u, v, 2), by + constantBehind(t, u, v));
        }

        /** Whether everywhere in the space a row holds behind the change. */
        boolean keeps(Space space, int a, int b, int c, int d) {
            return space.implies(weightBehind(a, b, c, 0), weightBehind(a, b, c, 1),
                    weightBehind(a, b, c, 2), d - constantBehind(a, b, c));
        }
    }

    private static final class Loop {
        private int names;
        private final Rows guardRows = new Rows(MOST_GUARD_ROWS);
        private final Way[] ways = new Way[MOST_WAYS];
        private int wayCount;
        private final long[] state = new long[MOST_NAMES];
        private final long[] next = new long[MOST_NAMES];

        Loop() {
            for (int i = 0; i < MOST_WAYS; i++) {
                ways[i] = new Way();
            }
        }

        void begin(int names) {
            this.names = names;
            guardRows.count = 0;
            wayCount = 0;
            for (int i = 0; i < MOST_NAMES; i++) {
                state[i] = 0;
            }
        }

        int appendWay() {
            if (wayCount >= MOST_WAYS) {
                return ROOM;
            }
            ways[wayCount].begin();
            wayCount++;
            return wayCount - 1;
        }

        /** How far numbers go for a name: not at all, if there is no such name. */
        int reach(int name, int most) {
            return name < names ? most : 0;
        }

        int openWays() {
            int bits = 0;
            if (guardRows.holdIn(state)) {
                for (int way = 0; way < wayCount; way++) {
                    if (ways[way].rows.holdIn(state)) {
                        bits |= 1 << way;
                    }
                }
            }
            return bits;
        }

        /** The state goes on by the first way that is open: the way, NONE, LOST. */
        int advance(long[] moving) {
            if (!guardRows.holdIn(moving)) {
                return NONE;
            }
            for (int way = 0; way < wayCount; way++) {
                if (ways[way].rows.holdIn(moving)) {
                    return change(way, moving) ? way : LOST;
                }
            }
            return NONE;
        }

        /** For a way that there is: whether its change is made. */
        boolean change(int way, long[] moving) {
            if (!ways[way].leads(moving, next)) {
                return false;
            }
            copyState(next, moving);
            return true;
        }
    }

    /**
     * The space of a way, by what it is made of: points, rays and lines.
     *
     * A point p / q stands as the ray (p, q), a direction r as the ray (r, 0), so both are turned and
     * cut alike, by rows with -d for q. The rays are never more than needed (each is on an edge), so 8
     * rows (q is 0 or more, 4 of the guard, 2 of the way, 1 of a need) make 12 of them at most; each
     * has numbers of no more than 486000, for they are determinants of 3 rows, divided: long is ample.
     * With nothing in it, a space has no rays and no lines, and all that is asked of all of them is so.
     */
    private static final class Space {
        private static final int MOST_RAYS = 32;

        private final long[] lines = new long[WIDTH * MOST_NAMES];
        private int lineCount;
        private final long[] rays = new long[WIDTH * MOST_RAYS];
        private int rayCount;
        /** For each ray the rows (bits) that just hold there. */
        private final int[] tight = new int[MOST_RAYS];
        /** For each ray by how much the row that cuts holds there. */
        private final long[] surplus = new long[MOST_RAYS];
        private final long[] pivot = new long[WIDTH];
        /** The bit of the row that comes next. */
        private int bit;

        void fill(Loop loop, int way) {
            begin(loop.names);
            int[] shared = loop.guardRows.numbers;
            for (int i = 0; i < WIDTH * loop.guardRows.count; i += WIDTH) {
                narrow(shared[i], shared[i + 1], shared[i + 2], shared[i + 3]);
            }
            Rows rows = loop.ways[way].rows;
            int[] own = rows.numbers;
            for (int i = 0; i < WIDTH * rows.count; i += WIDTH) {
                narrow(own[i], own[i + 1], own[i + 2], own[i + 3]);
            }
        }

        void copy(Space other) {
            lineCount = other.lineCount;
            rayCount = other.rayCount;
            bit = other.bit;
            for (int i = 0; i < WIDTH * lineCount; i++) {
                lines[i] = other.lines[i];
            }
            for (int i = 0; i < WIDTH * rayCount; i++) {
                rays[i] = other.rays[i];
            }
            for (int i = 0; i < rayCount; i++) {
                tight[i] = other.tight[i];
            }
        }

        boolean hasNothing() {
            return rayCount == 0;
        }

        /** Whether a row holds everywhere. Written out, because a search asks it many times. */
        boolean implies(int a, int b, int c, int d) {
            for (int i = 0; i < WIDTH * lineCount; i += WIDTH) {
                if (a * lines[i] + b * lines[i + 1] + c * lines[i + 2] != 0) {
                    return false;
                }
            }
            for (int i = 0; i < WIDTH * rayCount; i += WIDTH) {
                if (a * rays[i] + b * rays[i + 1] + c * rays[i + 2] < d * rays[i + 3]) {
                    return false;
                }
            }
            return true;
        }

        /** Whether there is a number below which a term is nowhere. */
        boolean bounds(int t, int u, int v) {
            if (lineAcross(t, u, v) >= 0) {
                return false;
            }
            for (int i = 0; i < rayCount; i++) {
                if (rays[WIDTH * i + 3] == 0 && worth(i, t, u, v, 0) < 0) {
                    return false;
                }
            }
            return true;
        }

        void narrow(int a, int b, int c, int d) {
            int across = lineAcross(a, b, c);
            if (across >= 0) {
                turn(across, a, b, c, d);
            } else {
                cut(a, b, c, d);
            }
            bit <<= 1;
            dropIfNoPoint();
        }

        /** All there is: a line for each name, and the point 0. */
        private void begin(int names) {
            lineCount = names;
            for (int i = 0; i < WIDTH * names; i++) {
                lines[i] = i % WIDTH == i / WIDTH ? 1 : 0;
            }
            rayCount = 0;
            for (int k = 0; k < WIDTH; k++) {
                pivot[k] = k == 3 ? 1 : 0;
            }
            appendPivot(0);
            // Bit 0 is the row that q is 0 or more: it just holds for directions.
            bit = 2;
        }

        private long worth(int ray, int a, int b, int c, int d) {
            int from = WIDTH * ray;
            return a * rays[from] + b * rays[from + 1] + c * rays[from + 2] - d * rays[from + 3];
        }

        private long slope(int line, int a, int b, int c) {
            int from = WIDTH * line;
            return a * lines[from] + b * lines[from + 1] + c * lines[from + 2];
        }

        /** A line along which the sum of the weighted names changes; NONE: there is none. */
        private int lineAcross(int a, int b, int c) {
            for (int i = 0; i < lineCount; i++) {
                if (slope(i, a, b, c) != 0) {
                    return i;
                }
            }
            return NONE;
        }

        /** A row halves a line: it becomes a ray, and all else is moved along it to where the row just holds. */
        private void turn(int line, int a, int b, int c, int d) {
            long steep = slope(line, a, b, c);
            long sign = steep < 0 ? -1 : 1;
            steep *= sign;
            lineCount--;
            for (int k = 0; k < WIDTH; k++) {
                pivot[k] = sign * lines[WIDTH * line + k];
                lines[WIDTH * line + k] = lines[WIDTH * lineCount + k];
            }
            for (int i = 0; i < lineCount; i++) {
                shift(lines, WIDTH * i, steep, slope(i, a, b, c));
            }
            for (int i = 0; i < rayCount; i++) {
                shift(rays, WIDTH * i, steep, worth(i, a, b, c, d));
                tight[i] |= bit;
            }
            // A line lay in the edge of all rows so far.
            appendPivot(bit - 1);
        }

        private void shift(long[] at, int from, long steep, long worth) {
            for (int k = 0; k < WIDTH; k++) {
                at[from + k] = steep * at[from + k] - worth * pivot[k];
            }
            reduce(at, from);
        }

        private void cut(int a, int b, int c, int d) {
            int before = rayCount;
            for (int i = 0; i < before; i++) {
                surplus[i] = worth(i, a, b, c, d);
            }
            for (int i = 0; i < before; i++) {
                for (int j = 0; surplus[i] > 0 && j < before; j++) {
                    if (surplus[j] < 0 && areNeighbours(i, j, before)) {
                        appendBetween(i, j);
                    }
                }
            }
            dropBeyond(before);
        }

        /** Whether two rays span a side of their own: no third one lies in the edge of all rows that they share. */
        private boolean areNeighbours(int one, int other, int before) {
            int shared = tight[one] & tight[other];
            for (int k = 0; k < before; k++) {
                if (k != one && k != other && (tight[k] & shared) == shared) {
                    return false;
                }
            }
            return true;
        }

        /** The ray between one within and one beyond the row that cuts, where this row just holds. */
        private void appendBetween(int within, int beyond) {
            for (int k = 0; k < WIDTH; k++) {
                pivot[k] = surplus[within] * rays[WIDTH * beyond + k] - surplus[beyond] * rays[WIDTH * within + k];
            }
            reduce(pivot, 0);
            appendPivot(tight[within] & tight[beyond] | bit);
        }

        private void appendPivot(int itsTight) {
            if (rayCount >= MOST_RAYS) {
                return;
            }
            for (int k = 0; k < WIDTH; k++) {
                rays[WIDTH * rayCount + k] = pivot[k];
            }
            tight[rayCount] = itsTight;
            rayCount++;
        }

        /** Of the rays from before the cut those go for which the row does not hold. */
        private void dropBeyond(int before) {
            int kept = 0;
            for (int i = 0; i < rayCount; i++) {
                if (i < before && surplus[i] < 0) {
                    continue;
                }
                for (int k = 0; k < WIDTH; k++) {
                    rays[WIDTH * kept + k] = rays[WIDTH * i + k];
                }
                tight[kept] = i < before && surplus[i] == 0 ? tight[i] | bit : tight[i];
                kept++;
            }
            rayCount = kept;
        }

        private void dropIfNoPoint() {
            for (int i = 0; i < rayCount; i++) {
                if (rays[WIDTH * i + 3] > 0) {
                    return;
                }
            }
            rayCount = 0;
            lineCount = 0;
        }

        /** Divides by what divides all, so that the numbers stay small. Euclid's way ends long before 100 rounds. */
        private static void reduce(long[] at, int from) {
            long common = 0;
            for (int k = 0; k < WIDTH; k++) {
                long other = at[from + k];
                for (int i = 0; i < 100 && other != 0; i++) {
                    long rest = common % other;
                    common = other;
                    other = rest;
                }
            }
            long divisor = common < 0 ? -common : common;
            for (int k = 0; divisor > 1 && k < WIDTH; k++) {
                at[from + k] /= divisor;
            }
        }
    }

    /** The terms that take ways, one after the other, and the ways that are left behind them. */
    private static final class Proof {
        /** t, u, v and the ways taken, for each term. */
        private final int[] found = new int[WIDTH * MOST_WAYS];
        private int count;
        private int waysLeft;

        void forget() {
            count = 0;
            waysLeft = 0;
        }

        void search(Loop loop, Space[] spaces) {
            count = 0;
            waysLeft = (1 << loop.wayCount) - 1;
            // Each term takes a way at least.
            for (int i = 0; i < MOST_WAYS && waysLeft != 0; i++) {
                if (!takeMore(loop, spaces)) {
                    return;
                }
            }
        }

        private boolean takeMore(Loop loop, Space[] spaces) {
            int reachU = loop.reach(1, MOST_IN_TERM);
            int reachV = loop.reach(2, MOST_IN_TERM);
            for (int t = -MOST_IN_TERM; t <= MOST_IN_TERM; t++) {
                for (int u = -reachU; u <= reachU; u++) {
                    for (int v = -reachV; v <= reachV; v++) {
                        boolean some = t != 0 || u != 0 || v != 0;
                        int taken = some ? takenBy(loop, spaces, t, u, v) : 0;
                        if (taken != 0) {
                            append(t, u, v, taken);
                            return true;
                        }
                    }
                }
            }
            return false;
        }

        /** The ways that a term takes (bits); 0 too, if it does not stay on all that are left. */
        private int takenBy(Loop loop, Space[] spaces, int t, int u, int v) {
            int taken = 0;
            for (int way = 0; way < loop.wayCount; way++) {
                if ((waysLeft >> way & 1) == 0) {
                    continue;
                }
                if (!loop.ways[way].lessens(spaces[way], t, u, v, 0)) {
                    return 0;
                }
                if (spaces[way].bounds(t, u, v) && loop.ways[way].lessens(spaces[way], t, u, v, 1)) {
                    taken |= 1 << way;
                }
            }
            return taken;
        }

        private void append(int t, int u, int v, int taken) {
            if (count >= MOST_WAYS) {
                return;
            }
            int from = WIDTH * count;
            found[from] = t;
            found[from + 1] = u;
            found[from + 2] = v;
            found[from + 3] = taken;
            count++;
            waysLeft &= ~taken;
        }
    }
}
