/** "(Where THE SPACE has nothing, all three.)" Spaces that just have nothing, and those that just have something. */
public final class NothingTest {
    private static final Due due = new Due();

    /** Guards that no fractions fulfil: some by far, some by a little. */
    private static final int[][][] NOTHING = {
        {{1, 0, 0, 1}, {-1, 0, 0, 0}},
        {{9, 0, 0, 1}, {-9, 0, 0, 0}},
        {{9, 0, 0, 1}, {-8, 0, 0, 0}},
        {{9, 0, 0, 1000}, {-8, 0, 0, -888}},
        {{1, 0, 0, 1000}, {-1, 0, 0, 1000}},
        {{3, -3, 0, 1}, {-2, 2, 0, 0}},
        {{9, -8, 0, 1}, {-9, 8, 0, 0}},
        {{1, 1, 0, 1}, {1, -1, 0, 1}, {-1, 0, 0, 0}},
        {{1, 1, 0, 1}, {-9, 0, 0, 0}, {0, -9, 0, 0}},
        {{1, 2, 3, 4}, {-1, -2, -3, -3}},
        {{1, -1, 0, 1}, {0, 1, -1, 0}, {-1, 0, 1, 0}},
        {{1, 1, 1, 1}, {-1, 0, 0, 0}, {0, -1, 0, 0}, {0, 0, -9, 0}},
        {{1, 0, 0, 1}, {0, 1, 0, 0}, {-1, 0, 0, 0}},
        {{1, 0, 0, 1}, {0, 1, 0, 0}, {0, 0, -1, 5}, {-1, 0, 0, 0}},
        {{1, -1, 0, 1}, {0, 0, 1, -3}, {-9, 9, 0, 0}},
    };
    /** The same, each with the first sum less by as little as makes it hold somewhere. */
    private static final int[][][] SOMETHING = {
        {{1, 0, 0, 0}, {-1, 0, 0, 0}},
        {{9, 0, 0, 0}, {-9, 0, 0, 0}},
        {{9, 0, 0, 0}, {-8, 0, 0, 0}},
        {{9, 0, 0, 999}, {-8, 0, 0, -888}},
        {{1, 0, 0, -1000}, {-1, 0, 0, 1000}},
        {{3, -3, 0, 0}, {-2, 2, 0, 0}},
        {{9, -8, 0, 0}, {-9, 8, 0, 0}},
        {{1, 1, 0, -1}, {1, -1, 0, 1}, {-1, 0, 0, 0}},
        {{1, 1, 0, 0}, {-9, 0, 0, 0}, {0, -9, 0, 0}},
        {{1, 2, 3, 3}, {-1, -2, -3, -3}},
        {{1, -1, 0, 0}, {0, 1, -1, 0}, {-1, 0, 1, 0}},
        {{1, 1, 1, 0}, {-1, 0, 0, 0}, {0, -1, 0, 0}, {0, 0, -9, 0}},
        {{1, 0, 0, 0}, {0, 1, 0, 0}, {-1, 0, 0, 0}},
        {{1, 0, 0, 0}, {0, 1, 0, 0}, {0, 0, -1, 5}, {-1, 0, 0, 0}},
        {{1, -1, 0, 0}, {0, 0, 1, -3}, {-9, 9, 0, 0}},
    };

    public static void main(String[] args) {
        for (int i = 0; i < NOTHING.length; i++) {
            for (int split = 0; split <= 2; split++) {
                if (NOTHING[i].length - split <= 4) {
                    nothing(NOTHING[i], split);
                    something(SOMETHING[i], split);
                }
            }
        }
        farAway();
        besideAWayThatHasSomething();
        allWaysAtOnce();
        needThatLeavesNothing();
        openNowhere();
        due.finish();
    }

    private static int namesOf(int[][] rows) {
        int names = 1;
        for (int[] row : rows) {
            names = Math.max(names, row[2] != 0 ? 3 : row[1] != 0 ? 2 : 1);
        }
        return names;
    }

    /** The last rows, so many as split says, are the way's own, the others the guard's. */
    private static FallingTerms made(int[][] rows, int split) {
        FallingTerms x = new FallingTerms();
        x.loop(namesOf(rows));
        x.way(0);
        for (int i = 0; i < rows.length; i++) {
            int[] r = rows[i];
            if (i >= rows.length - split) {
                x.row(0, 0, r[0], r[1], r[2], r[3]);
            } else {
                x.guard(0, r[0], r[1], r[2], r[3]);
            }
        }
        return x;
    }

    private static String name(int[][] rows, int split) {
        return java.util.Arrays.deepToString(rows) + " split " + split;
    }

    private static void nothing(int[][] rows, int split) {
        String of = name(rows, split);
        FallingTerms x = made(rows, split);
        int names = namesOf(rows);
        due.is(of + ": empty", x.empty(0, 0), 1);
        for (int sign = -1; sign <= 1; sign += 2) {
            due.is(of + ": holds", x.holds(0, 0, sign, 0, 0, 1000), 1);
            due.is(of + ": holds", x.holds(0, 0, 9 * sign, names > 1 ? -9 : 0, names > 2 ? 9 : 0, 1000), 1);
        }
        // A change that makes every term greater somewhere.
        x.factor(0, 0, 0, 0, 3);
        x.factor(0, 0, names - 1, names - 1, -3);
        x.constant(0, 0, 0, 99);
        for (int t = -2; t <= 2; t++) {
            for (int u = names > 1 ? -2 : 0; u <= (names > 1 ? 2 : 0); u++) {
                for (int v = names > 2 ? -2 : 0; v <= (names > 2 ? 2 : 0); v++) {
                    if (t != 0 || u != 0 || v != 0) {
                        due.is(of + ": term " + t + ", " + u + ", " + v, x.term(0, 0, t, u, v), 7);
                    }
                }
            }
        }
        due.is(of + ": prove", x.prove(0), 1);
        due.is(of + ": t", x.proof(0, 0), -2);
        due.is(of + ": u", x.proof(0, 1), names > 1 ? -2 : 0);
        due.is(of + ": v", x.proof(0, 2), names > 2 ? -2 : 0);
        due.is(of + ": takes", x.proof(0, 3), 1);
        due.is(of + ": need", x.need(0), 2);
    }

    private static void something(int[][] rows, int split) {
        String of = name(rows, split);
        FallingTerms x = made(rows, split);
        int[] first = rows[0];
        due.is(of + ": empty", x.empty(0, 0), 0);
        due.is(of + ": the first row", x.holds(0, 0, first[0], first[1], first[2], first[3]), 1);
        due.is(of + ": the same from 1000 on", x.holds(0, 0, first[0], first[1], first[2], 1000), 0);
        due.is(of + ": its reverse from 1000 on", x.holds(0, 0, -first[0], -first[1], -first[2], 1000),
                first[3] == -1000 ? 1 : 0);
        due.is(of + ": no term falls", x.term(0, 0, 1, 0, 0) & 4, 0);
        due.is(of + ": each one stays", x.term(0, 0, -1, 0, 0) & 2, 2);
        due.is(of + ": prove", x.prove(0), 0);
    }

    /** "all rows of fractions (of any size)": a space that begins beyond all numbers of states. */
    private static void farAway() {
        FallingTerms x = new FallingTerms();
        x.loop(2);
        x.way(0);
        // y >= x + 1000 and 9x >= 8y + 1000: from 9000 on.
        x.guard(0, -1, 1, 0, 1000);
        x.guard(0, 9, -8, 0, 1000);
        due.is("far away: empty", x.empty(0, 0), 0);
        due.is("far away: x >= 1000", x.holds(0, 0, 1, 0, 0, 1000), 1);
        due.is("far away: 9x - 8y >= 1000", x.holds(0, 0, 9, -8, 0, 1000), 1);
        due.is("far away: 8y - 7x >= 1000", x.holds(0, 0, -7, 8, 0, 1000), 1);
        due.is("far away: x - y >= -1000", x.holds(0, 0, 1, -1, 0, -1000), 0);
        due.is("far away: bounded, x", x.term(0, 0, 1, 0, 0), 3);
        due.is("far away: bounded, y", x.term(0, 0, 0, 1, 0), 3);
        due.is("far away: bounded, y - x", x.term(0, 0, -1, 1, 0), 3);
        due.is("far away: bounded, x - y", x.term(0, 0, 1, -1, 0), 2);
        x.row(0, 0, -1, 0, 0, -1000);
        due.is("not so far: empty", x.empty(0, 0), 1);
        // With 9x >= 9y + 1 instead there is nothing, however far.
        x = new FallingTerms();
        x.loop(2);
        x.way(0);
        x.guard(0, -1, 1, 0, 0);
        x.guard(0, 9, -9, 0, 1);
        due.is("nowhere: empty", x.empty(0, 0), 1);
    }

    /** All three on the way that has nothing says nothing of the other one. */
    private static void besideAWayThatHasSomething() {
        for (int nothing = 0; nothing < 2; nothing++) {
            FallingTerms x = new FallingTerms();
            x.loop(1);
            x.way(0);
            x.way(0);
            x.row(0, nothing, 1, 0, 0, 1);
            x.row(0, nothing, -1, 0, 0, 0);
            x.constant(0, nothing, 0, 99);
            due.is("beside: empty", x.empty(0, nothing), 1);
            due.is("beside: empty, the other", x.empty(0, 1 - nothing), 0);
            due.is("beside: term", x.term(0, nothing, 1, 0, 0), 7);
            due.is("beside: term, the other", x.term(0, 1 - nothing, 1, 0, 0), 2);
            // The first term stays on the other way and takes the one that has nothing.
            due.is("beside: prove", x.prove(0), 0);
            due.is("beside: left", x.left(), 2 - nothing);
            due.is("beside: t", x.proof(0, 0), -2);
            due.is("beside: takes", x.proof(0, 3), 1 + nothing);
            due.is("beside: one term", x.proof(1, 0), -1000);
            // The other way falls by 1 from 0 on: x stays where there is nothing, and falls there.
            x.row(0, 1 - nothing, 1, 0, 0, 0);
            x.constant(0, 1 - nothing, 0, -1);
            due.is("beside: prove", x.prove(0), 1);
            due.is("beside: t", x.proof(0, 0), 1);
            due.is("beside: takes both", x.proof(0, 3), 3);
        }
    }

    private static void allWaysAtOnce() {
        for (int ways = 1; ways <= 3; ways++) {
            FallingTerms x = new FallingTerms();
            x.loop(3);
            for (int way = 0; way < ways; way++) {
                x.way(0);
                x.constant(0, way, way, 50);
            }
            x.guard(0, 0, 0, 1, 1);
            x.guard(0, 0, 0, -1, 0);
            due.is("a guard that never holds: prove", x.prove(0), 1);
            for (int what = 0; what < 3; what++) {
                due.is("a guard that never holds: the first term", x.proof(0, what), -2);
            }
            due.is("a guard that never holds: takes all", x.proof(0, 3), (1 << ways) - 1);
            due.is("a guard that never holds: one term", x.proof(1, 0), -1000);
            due.is("a guard that never holds: need", x.need(0), 2);
        }
    }

    /** A row with which nothing is in any space lasts, and proves. */
    private static void needThatLeavesNothing() {
        for (int from = -5; from <= 5; from++) {
            FallingTerms x = new FallingTerms();
            x.loop(1);
            x.way(0);
            x.guard(0, 1, 0, 0, from);
            // It stands still, so only a row with nothing proves: -x >= d is nothing for d > -from.
            boolean found = 1 - from <= 2;
            due.is("x >= " + from + ": need", x.need(0), found ? 1 : 0);
            due.is("x >= " + from + ": a", x.needed(0), found ? -1 : -1000);
            due.is("x >= " + from + ": d", x.needed(3), found ? Math.max(-2, 1 - from) : -1000);
        }
        for (int upTo = -5; upTo <= 5; upTo++) {
            FallingTerms x = new FallingTerms();
            x.loop(1);
            x.way(0);
            x.guard(0, -1, 0, 0, -upTo);
            boolean found = upTo + 1 <= 2;
            due.is("x <= " + upTo + ": need", x.need(0), found ? 1 : 0);
            due.is("x <= " + upTo + ": a", x.needed(0), found ? 1 : -1000);
            due.is("x <= " + upTo + ": d", x.needed(3), found ? Math.max(-2, upTo + 1) : -1000);
        }
    }

    /** A space may have fractions where no state is: the walk ends at once, and nothing is proved. */
    private static void openNowhere() {
        FallingTerms x = new FallingTerms();
        x.loop(1);
        x.way(0);
        x.guard(0, 2, 0, 0, 1);
        x.guard(0, -2, 0, 0, -1);
        due.is("x = 1/2: empty", x.empty(0, 0), 0);
        due.is("x = 1/2: 9x >= 4", x.holds(0, 0, 9, 0, 0, 4), 1);
        due.is("x = 1/2: 9x >= 5", x.holds(0, 0, 9, 0, 0, 5), 0);
        due.is("x = 1/2: prove", x.prove(0), 0);
        due.is("x = 1/2: open at 0", x.open(0), 0);
        x.put(0, 0, 1);
        due.is("x = 1/2: open at 1", x.open(0), 0);
        due.is("x = 1/2: step", x.step(0), -1);
        due.is("x = 1/2: ring", x.ring(0, 6), 0);
        due.is("x = 1/2: need", x.need(0), 1);
        due.is("x = 1/2: -x >= 0", x.needed(3), 0);
    }
}
