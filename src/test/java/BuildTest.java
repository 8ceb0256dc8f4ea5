/** Promises 1 to 9 and 25: loops, their rows, ways and changes, and what is told of them. */
public final class BuildTest {
    private static final int UNKNOWN = -2, OUTSIDE = -3, ROOM = -4;
    private static final int MIN = Integer.MIN_VALUE, MAX = Integer.MAX_VALUE;
    private static final Due due = new Due();

    public static void main(String[] args) {
        newObject();
        loop();
        clear();
        guard();
        way();
        row();
        factor();
        constant();
        told();
        due.finish();
    }

    private static void newObject() {
        FallingTerms x = new FallingTerms();
        due.is("new: loops()", x.loops(), 0);
        due.is("new: told(0, 0)", x.told(0, 0), UNKNOWN);
        due.is("new: left()", x.left(), 0);
        due.is("new: proof(0, 0)", x.proof(0, 0), -1000);
        due.is("new: needed(0)", x.needed(0), -1000);
        due.is("new: clear()", x.clear(), 0);
        FallingTerms y = new FallingTerms();
        y.loop(1);
        due.is("another object: loops()", x.loops(), 0);
    }

    private static void loop() {
        FallingTerms x = new FallingTerms();
        for (int names : new int[] {MIN, -1, 0, 4, MAX}) {
            due.is("loop(" + names + ")", x.loop(names), OUTSIDE);
        }
        due.is("loops() behind OUTSIDE", x.loops(), 0);
        for (int i = 0; i < 8; i++) {
            due.is("loop " + i, x.loop(1 + i % 3), i);
            due.is("loops()", x.loops(), i + 1);
            due.is("names", x.told(i, 0), 1 + i % 3);
            due.is("ways", x.told(i, 1), 0);
            due.is("guard rows", x.told(i, 2), 0);
            for (int name = 0; name < 1 + i % 3; name++) {
                due.is("state", x.at(i, name), 0);
            }
        }
        due.is("loop 8", x.loop(1), ROOM);
        due.is("loop 8 with 4 names", x.loop(4), OUTSIDE);
        due.is("loops() behind ROOM", x.loops(), 8);
    }

    private static void clear() {
        FallingTerms x = new FallingTerms();
        for (int i = 0; i < 8; i++) {
            x.loop(2);
        }
        x.guard(0, 1, 0, 0, 1);
        x.way(0);
        x.row(0, 0, 0, 1, 0, 5);
        x.factor(0, 0, 0, 0, 3);
        x.constant(0, 0, 1, 7);
        x.put(0, 1, 9);
        x.prove(0);
        due.is("left() before clear()", x.left(), 1);
        due.is("clear()", x.clear(), 8);
        due.is("loops()", x.loops(), 0);
        due.is("left()", x.left(), 0);
        due.is("told of a cleared loop", x.told(0, 0), UNKNOWN);
        due.is("clear() again", x.clear(), 0);
        due.is("loop behind clear()", x.loop(3), 0);
        due.is("guard rows", x.told(0, 2), 0);
        due.is("ways", x.told(0, 1), 0);
        due.is("state", x.at(0, 1), 0);
        due.is("way", x.way(0), 0);
        due.is("row", x.row(0, 0, 0, 0, 1, 0), 1);
        due.is("factor as at first", x.factor(0, 0, 0, 0, 1), 4);
        due.is("constant as at first", x.constant(0, 0, 1, 0), 99);

        x = new FallingTerms();
        x.loop(1);
        x.guard(0, 1, 0, 0, 1);
        x.way(0);
        x.constant(0, 0, 0, -1);
        x.prove(0);
        due.is("proof(0, 0)", x.proof(0, 0), 1);
        x.clear();
        for (int what = 0; what < 4; what++) {
            due.is("proof behind clear()", x.proof(0, what), -1000);
        }
    }

    /** Rows that are refused by their numbers, for a loop of so many names. */
    private static int[][] wrongRows(int names) {
        return new int[][] {
            {0, 0, 0, 0}, {10, 0, 0, 0}, {-10, 0, 0, 0}, {MIN, 0, 0, 0}, {MAX, 0, 0, 0},
            {1, 10, 0, 0}, {1, -10, 0, 0}, {1, MIN, 0, 0}, {1, 0, 10, 0}, {1, 0, -10, 0}, {1, 0, MIN, 0},
            {1, 0, 0, 1001}, {1, 0, 0, -1001}, {1, 0, 0, MIN}, {1, 0, 0, MAX},
            {1, names < 2 ? 1 : 10, 0, 0}, {1, 0, names < 3 ? -1 : 10, 0}, {0, 0, names < 3 ? 1 : 10, 0},
        };
    }

    private static void guard() {
        FallingTerms x = new FallingTerms();
        due.is("guard of no loop", x.guard(0, 0, 0, 0, 0), UNKNOWN);
        for (int names = 1; names <= 3; names++) {
            int loop = x.loop(names);
            due.is("guard(-1 ..)", x.guard(-1, 1, 0, 0, 0), UNKNOWN);
            due.is("guard of the next loop", x.guard(loop + 1, 1, 0, 0, 0), UNKNOWN);
            for (int[] w : wrongRows(names)) {
                due.is("guard with a wrong row", x.guard(loop, w[0], w[1], w[2], w[3]), OUTSIDE);
            }
            due.is("guard 1", x.guard(loop, 9, 0, 0, -1000), 1);
            due.is("guard 2", x.guard(loop, -9, 0, 0, -1000), 2);
            due.is("guard 3", x.guard(loop, 1, names > 1 ? -9 : 0, names > 2 ? 9 : 0, 1000), 3);
            due.is("guard 4", x.guard(loop, names == 1 ? 1 : 0, names == 2 ? 1 : 0, names == 3 ? 1 : 0, 0), 4);
            due.is("guard 5", x.guard(loop, 1, 0, 0, 0), ROOM);
            due.is("guard 5, wrong", x.guard(loop, 0, 0, 0, 0), OUTSIDE);
            due.is("guard rows", x.told(loop, 2), 4);
        }
    }

    private static void way() {
        FallingTerms x = new FallingTerms();
        due.is("way of no loop", x.way(0), UNKNOWN);
        x.loop(1);
        x.loop(2);
        due.is("way(-1)", x.way(-1), UNKNOWN);
        due.is("way(2)", x.way(2), UNKNOWN);
        for (int i = 0; i < 3; i++) {
            due.is("way(1)", x.way(1), i);
        }
        due.is("way(1), a fourth", x.way(1), ROOM);
        due.is("ways of 1", x.told(1, 1), 3);
        due.is("ways of 0", x.told(0, 1), 0);
        x.put(1, 0, 5);
        x.put(1, 1, -7);
        due.is("a new way is open", x.step(1), 0);
        due.is("and changes nothing", x.at(1, 0), 5);
        due.is("and changes nothing", x.at(1, 1), -7);
    }

    private static void row() {
        FallingTerms x = new FallingTerms();
        due.is("row of no loop", x.row(0, 0, 1, 0, 0, 0), UNKNOWN);
        for (int names = 1; names <= 3; names++) {
            int loop = x.loop(names);
            due.is("row of no way", x.row(loop, 0, 0, 0, 0, 0), UNKNOWN);
            x.way(loop);
            x.way(loop);
            due.is("row(.., -1 ..)", x.row(loop, -1, 1, 0, 0, 0), UNKNOWN);
            due.is("row(.., 2 ..)", x.row(loop, 2, 1, 0, 0, 0), UNKNOWN);
            for (int[] w : wrongRows(names)) {
                due.is("row with a wrong row", x.row(loop, 1, w[0], w[1], w[2], w[3]), OUTSIDE);
            }
            due.is("row 1", x.row(loop, 1, 9, names > 1 ? 9 : 0, names > 2 ? -9 : 0, 1000), 1);
            due.is("row 2", x.row(loop, 1, -9, 0, 0, -1000), 2);
            due.is("row 3", x.row(loop, 1, 1, 0, 0, 0), ROOM);
            due.is("row 3, wrong", x.row(loop, 1, 1, 0, 0, 1001), OUTSIDE);
            due.is("row 1 of another way", x.row(loop, 0, 1, 0, 0, 0), 1);
            due.is("guard rows", x.told(loop, 2), 0);
        }
    }

    private static void factor() {
        FallingTerms x = new FallingTerms();
        due.is("factor of no loop", x.factor(0, 0, 0, 0, 0), UNKNOWN);
        x.loop(2);
        due.is("factor of no way", x.factor(0, 0, 0, 0, 0), UNKNOWN);
        x.way(0);
        due.is("factor of no name", x.factor(0, 0, 2, 0, 9), UNKNOWN);
        due.is("factor of no name", x.factor(0, 0, -1, 0, 0), UNKNOWN);
        due.is("factor of no other", x.factor(0, 0, 0, 2, 9), UNKNOWN);
        due.is("factor of no other", x.factor(0, 0, 0, -1, 0), UNKNOWN);
        for (int v : new int[] {MIN, -4, 4, MAX}) {
            due.is("factor " + v, x.factor(0, 0, 0, 0, v), OUTSIDE);
        }
        for (int name = 0; name < 2; name++) {
            for (int other = 0; other < 2; other++) {
                due.is("factor at first", x.factor(0, 0, name, other, -3), name == other ? 4 : 3);
                due.is("factor -3", x.factor(0, 0, name, other, 3), 0);
                due.is("factor 3", x.factor(0, 0, name, other, name == other ? 1 : 0), 6);
            }
        }
        // Name 0 becomes 2 times itself less name 1; name 1 becomes name 0 as it was.
        x.factor(0, 0, 0, 0, 2);
        x.factor(0, 0, 0, 1, -1);
        x.factor(0, 0, 1, 0, 1);
        x.factor(0, 0, 1, 1, 0);
        x.put(0, 0, 10);
        x.put(0, 1, 3);
        x.step(0);
        due.is("name 0", x.at(0, 0), 17);
        due.is("name 1", x.at(0, 1), 10);
    }

    private static void constant() {
        FallingTerms x = new FallingTerms();
        due.is("constant of no loop", x.constant(0, 0, 0, 0), UNKNOWN);
        x.loop(1);
        due.is("constant of no way", x.constant(0, 0, 0, 0), UNKNOWN);
        x.way(0);
        due.is("constant of no name", x.constant(0, 0, 1, 100), UNKNOWN);
        due.is("constant of no name", x.constant(0, 0, -1, 0), UNKNOWN);
        for (int v : new int[] {MIN, -100, 100, MAX}) {
            due.is("constant " + v, x.constant(0, 0, 0, v), OUTSIDE);
        }
        due.is("constant at first", x.constant(0, 0, 0, -99), 99);
        due.is("constant -99", x.constant(0, 0, 0, 99), 0);
        due.is("constant 99", x.constant(0, 0, 0, 5), 198);
        x.step(0);
        due.is("name 0", x.at(0, 0), 5);
    }

    private static void told() {
        FallingTerms x = new FallingTerms();
        due.is("told of no loop", x.told(0, 7), UNKNOWN);
        x.loop(3);
        x.way(0);
        x.way(0);
        x.guard(0, 0, 0, 1, 0);
        due.is("told(-1, 0)", x.told(-1, 0), UNKNOWN);
        due.is("told(1, 0)", x.told(1, 0), UNKNOWN);
        due.is("told(0, 0)", x.told(0, 0), 3);
        due.is("told(0, 1)", x.told(0, 1), 2);
        due.is("told(0, 2)", x.told(0, 2), 1);
        for (int what : new int[] {MIN, -1, 3, MAX}) {
            due.is("told(0, " + what + ")", x.told(0, what), OUTSIDE);
        }
    }
}
