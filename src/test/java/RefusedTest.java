import java.util.List;

/**
 * "Calls answer, the first of these that fits: UNKNOWN (a LOOP, WAY, NAME that there is not), OUTSIDE
 * (another number out of its bounds), ROOM; then nothing changes."
 *
 * Each refused call is made on an object of its own; then all that can be asked of it is answered as by
 * a twin on which the call was not made.
 */
public final class RefusedTest {
    private static final int UNKNOWN = -2, OUTSIDE = -3, ROOM = -4;
    private static final int MIN = Integer.MIN_VALUE, MAX = Integer.MAX_VALUE;
    private static final int NONE_SUCH = -1000;
    private static final long NO_NUMBER = -9000000000000L;

    /** What is no loop of three. The great ones would be one if they were multiplied by 4 or 8. */
    private static final int[] NO_LOOPS = {MIN, MIN + 1, -1, 3, 4, 7, 8, 1 << 29, 1 << 30, MAX};
    /** What is no way and no name of loop 1, which has two of each. */
    private static final int[] NO_SUCH = {MIN, MIN + 1, -1, 2, 3, 1 << 29, 1 << 30, MAX};
    private static final int[] BEYOND_WEIGHT = {MIN, MIN + 1, -10, 10, MAX};
    private static final int[] BEYOND_SUM = {MIN, MIN + 1, -1001, 1001, MAX};
    private static final int[] BEYOND_TERM = {MIN, MIN + 1, -3, 3, MAX};

    private static final List<String> THREE = Rich.tell(Rich.ofThree());
    private static final List<String> EIGHT = Rich.tell(Rich.ofEight());
    private static final Due due = new Due();

    private interface Call {
        long on(FallingTerms x);
    }

    public static void main(String[] args) {
        due.is("calls of a twin are 512 at most", THREE.size() < 400 && EIGHT.size() < 400 ? 1 : 0, 1);
        for (int loop : NO_LOOPS) {
            noLoop(loop);
        }
        for (int such : NO_SUCH) {
            noWay(such);
            noName(such);
        }
        rowOutside();
        namesThatThereAreNot();
        termOutside();
        numberOutside();
        room();
        unknownComesFirst();
        outsideComesBeforeRoom();
        fullObject();
        newObject();
        clearedObject();
        due.finish();
    }

    private static void refused(String call, long want, Call made) {
        FallingTerms x = Rich.ofThree();
        due.is(call, made.on(x), want);
        due.same("behind " + call, Rich.tell(x), THREE);
    }

    /** "UNKNOWN (a LOOP .. that there is not)", for each call that takes one. */
    private static void noLoop(int loop) {
        String of = " of loop " + loop;
        refused("guard" + of, UNKNOWN, x -> x.guard(loop, 1, 0, 0, 1));
        refused("way" + of, UNKNOWN, x -> x.way(loop));
        refused("row" + of, UNKNOWN, x -> x.row(loop, 0, 1, 0, 0, 1));
        refused("factor" + of, UNKNOWN, x -> x.factor(loop, 0, 0, 0, 2));
        refused("constant" + of, UNKNOWN, x -> x.constant(loop, 0, 0, 5));
        refused("told" + of, UNKNOWN, x -> x.told(loop, 0));
        refused("empty" + of, UNKNOWN, x -> x.empty(loop, 0));
        refused("holds" + of, UNKNOWN, x -> x.holds(loop, 0, 1, 0, 0, 0));
        refused("term" + of, UNKNOWN, x -> x.term(loop, 0, 1, 0, 0));
        refused("prove" + of, UNKNOWN, x -> x.prove(loop));
        refused("need" + of, UNKNOWN, x -> x.need(loop));
        refused("put" + of, UNKNOWN, x -> x.put(loop, 0, 9));
        refused("at" + of, NO_NUMBER, x -> x.at(loop, 0));
        refused("open" + of, UNKNOWN, x -> x.open(loop));
        refused("step" + of, UNKNOWN, x -> x.step(loop));
        refused("go" + of, UNKNOWN, x -> x.go(loop, 0));
        refused("walk" + of, UNKNOWN, x -> x.walk(loop, 1));
        refused("ring" + of, UNKNOWN, x -> x.ring(loop, 1));
    }

    /** "UNKNOWN (a .. WAY .. that there is not)". */
    private static void noWay(int way) {
        String of = " of way " + way;
        refused("row" + of, UNKNOWN, x -> x.row(1, way, 1, 0, 0, 1));
        refused("factor" + of, UNKNOWN, x -> x.factor(1, way, 0, 0, 2));
        refused("constant" + of, UNKNOWN, x -> x.constant(1, way, 0, 5));
        refused("empty" + of, UNKNOWN, x -> x.empty(1, way));
        refused("holds" + of, UNKNOWN, x -> x.holds(1, way, 1, 0, 0, 0));
        refused("term" + of, UNKNOWN, x -> x.term(1, way, 1, 0, 0));
        refused("go" + of, UNKNOWN, x -> x.go(1, way));
    }

    /** "UNKNOWN (a .. NAME that there is not)". */
    private static void noName(int name) {
        String of = " of name " + name;
        refused("factor" + of, UNKNOWN, x -> x.factor(1, 0, name, 0, 2));
        refused("factor" + of + " as the other", UNKNOWN, x -> x.factor(1, 0, 0, name, 2));
        refused("constant" + of, UNKNOWN, x -> x.constant(1, 0, name, 5));
        refused("put" + of, UNKNOWN, x -> x.put(1, name, 9));
        refused("at" + of, NO_NUMBER, x -> x.at(1, name));
    }

    private static void rowRefused(int loop, int a, int b, int c, int d) {
        String of = " of " + loop + ": " + a + ", " + b + ", " + c + ", " + d;
        refused("guard" + of, OUTSIDE, x -> x.guard(loop, a, b, c, d));
        refused("row" + of, OUTSIDE, x -> x.row(loop, 0, a, b, c, d));
        refused("holds" + of, OUTSIDE, x -> x.holds(loop, 0, a, b, c, d));
    }

    /** "a, b, c from -9 to 9, not all 0 ..; d from -1000 to 1000" */
    private static void rowOutside() {
        for (int v : BEYOND_WEIGHT) {
            rowRefused(2, v, 0, 0, 0);
            rowRefused(2, v, 1, 1, 0);
            rowRefused(2, 0, v, 0, 0);
            rowRefused(2, 1, v, 1, 0);
            rowRefused(2, 0, 0, v, 0);
            rowRefused(2, 1, 1, v, 0);
        }
        for (int v : BEYOND_SUM) {
            rowRefused(2, 1, 0, 0, v);
            rowRefused(2, 0, -1, 1, v);
        }
        for (int d = -1; d <= 1; d++) {
            rowRefused(0, 0, 0, 0, d);
            rowRefused(1, 0, 0, 0, d);
            rowRefused(2, 0, 0, 0, d);
        }
    }

    /** "those of NAMES that there are not 0" */
    private static void namesThatThereAreNot() {
        for (int v : new int[] {MIN, -9, -1, 1, 9, MAX}) {
            rowRefused(0, 1, v, 0, 0);
            rowRefused(0, 1, 0, v, 0);
            rowRefused(0, 0, v, 0, 0);
            rowRefused(1, 1, 0, v, 0);
            rowRefused(1, 0, 1, v, 0);
            rowRefused(1, 0, 0, v, 0);
        }
        for (int v : new int[] {MIN, -2, -1, 1, 2, MAX}) {
            termRefused(0, 1, v, 0);
            termRefused(0, 1, 0, v);
            termRefused(0, 0, v, 0);
            termRefused(1, 1, 0, v);
            termRefused(1, 0, 1, v);
            termRefused(1, 0, 0, v);
        }
    }

    private static void termRefused(int loop, int t, int u, int v) {
        refused("term of " + loop + ": " + t + ", " + u + ", " + v, OUTSIDE, x -> x.term(loop, 0, t, u, v));
    }

    /** "A TERM is t, u, v (each -2 to 2, not all 0 ..)" */
    private static void termOutside() {
        for (int v : BEYOND_TERM) {
            termRefused(2, v, 0, 0);
            termRefused(2, v, 1, 1);
            termRefused(2, 0, v, 0);
            termRefused(2, 1, v, 1);
            termRefused(2, 0, 0, v);
            termRefused(2, 1, 1, v);
        }
        termRefused(0, 0, 0, 0);
        termRefused(1, 0, 0, 0);
        termRefused(2, 0, 0, 0);
    }

    /** "OUTSIDE (another number out of its bounds)", for the calls that take no row and no term. */
    private static void numberOutside() {
        for (int names : new int[] {MIN, MIN + 1, -1, 0, 4, 5, MAX}) {
            refused("loop(" + names + ")", OUTSIDE, x -> x.loop(names));
        }
        for (int v : new int[] {MIN, MIN + 1, -4, 4, MAX}) {
            refused("factor " + v, OUTSIDE, x -> x.factor(1, 0, 0, 1, v));
        }
        for (int v : new int[] {MIN, MIN + 1, -100, 100, MAX}) {
            refused("constant " + v, OUTSIDE, x -> x.constant(1, 0, 0, v));
        }
        for (int what : new int[] {MIN, -1, 3, 4, MAX}) {
            refused("told " + what, OUTSIDE, x -> x.told(1, what));
        }
        for (int v : new int[] {MIN, MIN + 1, -1000001, 1000001, MAX}) {
            refused("put " + v, OUTSIDE, x -> x.put(1, 0, v));
        }
        for (int n : new int[] {MIN, -1, 1001, MAX}) {
            refused("walk " + n, OUTSIDE, x -> x.walk(1, n));
        }
        for (int size : new int[] {MIN, -1, 7, 8, MAX}) {
            refused("ring " + size, OUTSIDE, x -> x.ring(1, size));
        }
        for (int v : new int[] {MIN, -1, 4, MAX}) {
            refused("proof(0, " + v + ")", NONE_SUCH, x -> x.proof(0, v));
            refused("proof(" + v + ", 0)", NONE_SUCH, x -> x.proof(v, 0));
            refused("needed(" + v + ")", NONE_SUCH, x -> x.needed(v));
        }
    }

    /** "ROOM": 4 rows of a guard, 3 ways, 2 rows of a way; loops are full in fullObject(). */
    private static void room() {
        refused("guard, a fifth", ROOM, x -> x.guard(0, 1, 0, 0, 7));
        refused("way, a fourth", ROOM, x -> x.way(0));
        for (int way = 0; way < 3; way++) {
            int of = way;
            refused("row, a third, of way " + way, ROOM, x -> x.row(0, of, 1, 0, 0, 7));
        }
    }

    /** "the first of these that fits: UNKNOWN .., OUTSIDE" */
    private static void unknownComesFirst() {
        refused("guard", UNKNOWN, x -> x.guard(3, 0, 0, 0, 0));
        refused("guard", UNKNOWN, x -> x.guard(-1, 1, 0, 0, 1001));
        refused("row, no loop", UNKNOWN, x -> x.row(3, 0, 0, 0, 0, 0));
        refused("row, no way", UNKNOWN, x -> x.row(1, 2, 10, 0, 0, 0));
        refused("row, no way of a full loop", UNKNOWN, x -> x.row(0, 3, 1, 0, 0, 1001));
        refused("factor, no loop", UNKNOWN, x -> x.factor(3, 0, 0, 0, 4));
        refused("factor, no way", UNKNOWN, x -> x.factor(1, 2, 0, 0, 4));
        refused("factor, no name", UNKNOWN, x -> x.factor(1, 0, 2, 0, 4));
        refused("factor, no other", UNKNOWN, x -> x.factor(1, 0, 0, 2, -4));
        refused("constant, no loop", UNKNOWN, x -> x.constant(3, 0, 0, 100));
        refused("constant, no way", UNKNOWN, x -> x.constant(1, 2, 0, -100));
        refused("constant, no name", UNKNOWN, x -> x.constant(1, 0, 2, 100));
        refused("told", UNKNOWN, x -> x.told(3, 3));
        refused("told", UNKNOWN, x -> x.told(-1, -1));
        refused("holds, no loop", UNKNOWN, x -> x.holds(3, 0, 0, 0, 0, 0));
        refused("holds, no way", UNKNOWN, x -> x.holds(1, 2, 1, 0, 1, 0));
        refused("term, no loop", UNKNOWN, x -> x.term(3, 0, 0, 0, 0));
        refused("term, no way", UNKNOWN, x -> x.term(1, 2, 3, 0, 0));
        refused("put, no loop", UNKNOWN, x -> x.put(3, 0, 1000001));
        refused("put, no name", UNKNOWN, x -> x.put(1, 2, -1000001));
        refused("walk", UNKNOWN, x -> x.walk(3, 1001));
        refused("ring", UNKNOWN, x -> x.ring(3, 7));
    }

    /** "OUTSIDE (another number out of its bounds), ROOM" */
    private static void outsideComesBeforeRoom() {
        refused("guard of a full guard", OUTSIDE, x -> x.guard(0, 0, 0, 0, 0));
        refused("guard of a full guard", OUTSIDE, x -> x.guard(0, 10, 0, 0, 0));
        refused("guard of a full guard", OUTSIDE, x -> x.guard(0, 1, 1, 0, 0));
        refused("guard of a full guard", OUTSIDE, x -> x.guard(0, 1, 0, 0, 1001));
        refused("row of a full way", OUTSIDE, x -> x.row(0, 2, 0, 0, 0, 0));
        refused("row of a full way", OUTSIDE, x -> x.row(0, 2, -10, 0, 0, 0));
        refused("row of a full way", OUTSIDE, x -> x.row(0, 2, 1, 0, 1, 0));
        refused("row of a full way", OUTSIDE, x -> x.row(0, 2, 1, 0, 0, -1001));
    }

    /** The next loop is known when it is made, and a ninth one never. */
    private static void fullObject() {
        int[][] refusals = {{1, ROOM}, {2, ROOM}, {3, ROOM}, {0, OUTSIDE}, {4, OUTSIDE}, {MIN, OUTSIDE}, {MAX, OUTSIDE}};
        for (int[] refusal : refusals) {
            FallingTerms x = Rich.ofEight();
            due.is("loop(" + refusal[0] + ") of a full object", x.loop(refusal[0]), refusal[1]);
            due.same("behind loop(" + refusal[0] + ") of a full object", Rich.tell(x), EIGHT);
        }
        FallingTerms x = Rich.ofEight();
        due.is("told(7, 0)", x.told(7, 0), 2);
        due.is("told(8, 0)", x.told(8, 0), UNKNOWN);
        due.is("way(7)", x.way(7), 0);
        due.is("way(8)", x.way(8), UNKNOWN);
        due.is("at(7, 1)", x.at(7, 1), 0);
        due.is("at(8, 0)", x.at(8, 0), NO_NUMBER);
    }

    private static void newObject() {
        nothingKnown("new", new FallingTerms());
    }

    private static void clearedObject() {
        FallingTerms x = Rich.ofEight();
        x.clear();
        nothingKnown("cleared", x);
    }

    private static void nothingKnown(String of, FallingTerms x) {
        due.is(of + ": loops()", x.loops(), 0);
        due.is(of + ": guard", x.guard(0, 1, 0, 0, 0), UNKNOWN);
        due.is(of + ": way", x.way(0), UNKNOWN);
        due.is(of + ": row", x.row(0, 0, 1, 0, 0, 0), UNKNOWN);
        due.is(of + ": factor", x.factor(0, 0, 0, 0, 0), UNKNOWN);
        due.is(of + ": constant", x.constant(0, 0, 0, 0), UNKNOWN);
        due.is(of + ": told", x.told(0, 0), UNKNOWN);
        due.is(of + ": empty", x.empty(0, 0), UNKNOWN);
        due.is(of + ": holds", x.holds(0, 0, 1, 0, 0, 0), UNKNOWN);
        due.is(of + ": term", x.term(0, 0, 1, 0, 0), UNKNOWN);
        due.is(of + ": prove", x.prove(0), UNKNOWN);
        due.is(of + ": proof", x.proof(0, 0), NONE_SUCH);
        due.is(of + ": left", x.left(), 0);
        due.is(of + ": need", x.need(0), UNKNOWN);
        due.is(of + ": put", x.put(0, 0, 0), UNKNOWN);
        due.is(of + ": at", x.at(0, 0), NO_NUMBER);
        due.is(of + ": open", x.open(0), UNKNOWN);
        due.is(of + ": step", x.step(0), UNKNOWN);
        due.is(of + ": go", x.go(0, 0), UNKNOWN);
        due.is(of + ": walk", x.walk(0, 0), UNKNOWN);
        due.is(of + ": ring", x.ring(0, 0), UNKNOWN);
        due.is(of + ": loops()", x.loops(), 0);
        due.is(of + ": clear()", x.clear(), 0);
    }
}
