/**
 * How many there may be: "LOOPS have numbers from 0 on, 8 at most. Each has .. a GUARD of ROWS, 4 at most,
 * and WAYS with numbers from 0 on, 3 at most; each WAY has ROWS, 2 at most". What has nothing and what is
 * full answers each call as due, and the last one that there is room for counts as the first one does.
 */
public final class FullTest {
    private static final int NONE = -1, UNKNOWN = -2, ROOM = -4;
    private static final Due due = new Due();

    public static void main(String[] args) {
        newObjectHasNoLoops();
        loopsUpToEight();
        eachLoopIsItsOwn();
        fullOfFullLoops();
        clearMakesRoom();
        clearMakesAllAsAtFirst();
        loopWithoutWays();
        wayWithoutRows();
        guardUpToFour();
        waysUpToThree();
        rowsUpToTwo();
        eachWayIsItsOwn();
        sameRowTwice();
        allOf512Calls();
        due.finish();
    }

    /** "No LOOPS." */
    private static void newObjectHasNoLoops() {
        FallingTerms x = new FallingTerms();
        due.is("new: loops()", x.loops(), 0);
        due.is("new: left()", x.left(), 0);
        due.is("new: needed(0)", x.needed(0), -1000);
        due.is("new: proof(0, 3)", x.proof(0, 3), -1000);
        due.is("new: clear()", x.clear(), 0);
        new FallingTerms().loop(1);
        due.is("new, beside another one: loops()", x.loops(), 0);
    }

    /** "LOOPS have numbers from 0 on, 8 at most"; "A LOOP more ..: its number"; "How many LOOPS" */
    private static void loopsUpToEight() {
        for (int names = 1; names <= 3; names++) {
            FallingTerms x = new FallingTerms();
            for (int i = 0; i < 8; i++) {
                due.is("loops() before loop " + i, x.loops(), i);
                due.is("told of the next loop", x.told(i, 0), UNKNOWN);
                due.is("loop " + i, x.loop(names), i);
                due.is("names of loop " + i, x.told(i, 0), names);
            }
            for (int i = 0; i < 3; i++) {
                due.is("a ninth loop", x.loop(names), ROOM);
                due.is("loops() behind it", x.loops(), 8);
            }
        }
    }

    private static void eachLoopIsItsOwn() {
        FallingTerms x = new FallingTerms();
        for (int i = 0; i < 8; i++) {
            x.loop(1 + i % 3);
            x.way(i);
            x.constant(i, 0, 0, i - 4);
            x.factor(i, 0, 0, 0, i % 4);
            x.guard(i, 1, 0, 0, i);
            x.put(i, 0, 10 * i);
        }
        for (int i = 0; i < 8; i++) {
            due.is("its names", x.told(i, 0), 1 + i % 3);
            due.is("its guard holds", x.holds(i, 0, 1, 0, 0, i), 1);
            due.is("and no more", x.holds(i, 0, 1, 0, 0, i + 1), 0);
            due.is("its state", x.at(i, 0), 10 * i);
            due.is("its step", x.step(i), 0);
            due.is("its next state", x.at(i, 0), 10L * i * (i % 4) + i - 4);
            due.is("its constant", x.constant(i, 0, 0, 0), 95 + i);
            due.is("its factor", x.factor(i, 0, 0, 0, 0), 3 + i % 4);
        }
    }

    /** Eight loops with four rows, three ways and two rows each: all that there may be. */
    private static void fullOfFullLoops() {
        FallingTerms x = new FallingTerms();
        for (int i = 0; i < 8; i++) {
            x.loop(3);
            for (int way = 0; way < 3; way++) {
                due.is("way", x.way(i), way);
                x.constant(i, way, way, -1);
                due.is("row 1", x.row(i, way, way == 0 ? 1 : 0, way == 1 ? 1 : 0, way == 2 ? 1 : 0, i), 1);
                due.is("row 2", x.row(i, way, 0, 0, 1, -5), 2);
            }
            for (int count = 1; count <= 4; count++) {
                due.is("guard", x.guard(i, 1, 1, 1, -100 * count), count);
            }
        }
        for (int i = 0; i < 8; i++) {
            due.is("guard's rows", x.told(i, 2), 4);
            due.is("ways", x.told(i, 1), 3);
            due.is("prove", x.prove(i), 1);
            due.is("first term takes", x.proof(0, 3), 4);
            due.is("second term takes", x.proof(1, 3), 2);
            due.is("third term takes", x.proof(2, 3), 1);
            due.is("need", x.need(i), 2);
            for (int name = 0; name < 3; name++) {
                x.put(i, name, i);
            }
            due.is("open", x.open(i), 7);
            due.is("walk", x.walk(i, 1000), 3);
            due.is("way beyond", x.way(i), ROOM);
            due.is("guard beyond", x.guard(i, 1, 0, 0, 0), ROOM);
            due.is("row beyond", x.row(i, 2, 1, 0, 0, 0), ROOM);
        }
        due.is("loop beyond", x.loop(3), ROOM);
        due.is("clear()", x.clear(), 8);
    }

    /** "No LOOPS, no PROOF: how many LOOPS there were." */
    private static void clearMakesRoom() {
        FallingTerms x = new FallingTerms();
        for (int count = 0; count <= 8; count++) {
            for (int i = 0; i < count; i++) {
                due.is("loop behind clear()", x.loop(2), i);
            }
            due.is("clear() of " + count, x.clear(), count);
            due.is("loops() behind clear()", x.loops(), 0);
            due.is("clear() again", x.clear(), 0);
        }
    }

    private static void clearMakesAllAsAtFirst() {
        FallingTerms x = Rich.ofEight();
        due.is("left() before clear()", x.left(), 1);
        due.is("proof(0, 0) before clear()", x.proof(0, 0), 1);
        x.clear();
        due.is("left() behind clear()", x.left(), 0);
        for (int what = 0; what < 4; what++) {
            due.is("proof behind clear()", x.proof(0, what), -1000);
        }
        for (int i = 0; i < 8; i++) {
            due.is("loop", x.loop(3), i);
            due.is("names", x.told(i, 0), 3);
            due.is("ways", x.told(i, 1), 0);
            due.is("guard's rows", x.told(i, 2), 0);
            for (int name = 0; name < 3; name++) {
                due.is("state", x.at(i, name), 0);
            }
        }
        for (int way = 0; way < 3; way++) {
            due.is("way", x.way(0), way);
            for (int name = 0; name < 3; name++) {
                for (int other = 0; other < 3; other++) {
                    due.is("factor", x.factor(0, way, name, other, 2), name == other ? 4 : 3);
                }
                due.is("constant", x.constant(0, way, name, 0), 99);
            }
            due.is("no row holds", x.holds(0, way, 1, 0, 0, -1000), 0);
            due.is("row", x.row(0, way, 1, 0, 0, 0), 1);
        }
        due.is("left() without a prove()", x.left(), 0);
    }

    /** "without ROWS and WAYS, its STATE all 0" */
    private static void loopWithoutWays() {
        for (int names = 1; names <= 3; names++) {
            FallingTerms x = new FallingTerms();
            x.loop(names);
            due.is("ways", x.told(0, 1), 0);
            due.is("guard's rows", x.told(0, 2), 0);
            for (int name = 0; name < names; name++) {
                due.is("state", x.at(0, name), 0);
            }
            due.is("empty of no way", x.empty(0, 0), UNKNOWN);
            due.is("prove: no way is left", x.prove(0), 1);
            due.is("left", x.left(), 0);
            due.is("proof", x.proof(0, 3), -1000);
            due.is("need", x.need(0), 2);
            due.is("needed", x.needed(0), -1000);
            due.is("open", x.open(0), 0);
            due.is("step", x.step(0), NONE);
            due.is("go", x.go(0, 0), UNKNOWN);
            due.is("walk", x.walk(0, 1000), 0);
            due.is("ring", x.ring(0, 6), 0);
            due.is("state behind all", x.at(0, 0), 0);
            x.guard(0, 1, 0, 0, 1);
            x.guard(0, -1, 0, 0, 0);
            due.is("a guard that never holds: prove", x.prove(0), 1);
            due.is("a guard that never holds: proof", x.proof(0, 3), -1000);
            due.is("a guard that never holds: need", x.need(0), 2);
        }
    }

    /** The space of a way without rows is all there is; it is open everywhere, and at first changes nothing. */
    private static void wayWithoutRows() {
        for (int names = 1; names <= 3; names++) {
            FallingTerms x = new FallingTerms();
            x.loop(names);
            x.way(0);
            due.is("empty", x.empty(0, 0), 0);
            for (int sign = -1; sign <= 1; sign += 2) {
                due.is("holds", x.holds(0, 0, sign, 0, 0, -1000), 0);
                due.is("term", x.term(0, 0, sign, 0, 0), 2);
                x.put(0, 0, sign * 1000000);
                x.put(0, names - 1, sign * 1000000);
                due.is("open", x.open(0), 1);
                due.is("go", x.go(0, 0), 1);
                due.is("walk", x.walk(0, 1000), 1000);
                due.is("first", x.at(0, 0), sign * 1000000);
                due.is("last", x.at(0, names - 1), sign * 1000000);
            }
            due.is("prove", x.prove(0), 0);
            due.is("left", x.left(), 1);
            due.is("need", x.need(0), 0);
            due.is("ring", x.ring(0, 6), 1);
        }
    }

    /** "A ROW more of the GUARD: how many it has."; "4 at most": each of the four counts. */
    private static void guardUpToFour() {
        int[][] rows = {{1, 0, 0, -3}, {-1, 0, 0, -4}, {0, 1, 0, -5}, {0, -1, 0, -6}};
        for (int last = 0; last < 4; last++) {
            FallingTerms x = new FallingTerms();
            x.loop(2);
            x.way(0);
            for (int i = 0; i < 4; i++) {
                int[] row = rows[(last + 1 + i) % 4];
                due.is("holds before it is there", x.holds(0, 0, row[0], row[1], 0, row[3]), 0);
                due.is("guard", x.guard(0, row[0], row[1], row[2], row[3]), i + 1);
                due.is("guard's rows", x.told(0, 2), i + 1);
                due.is("holds", x.holds(0, 0, row[0], row[1], 0, row[3]), 1);
                due.is("and no more", x.holds(0, 0, row[0], row[1], 0, row[3] + 1), 0);
            }
            due.is("a fifth", x.guard(0, 1, 1, 0, 7), ROOM);
            due.is("guard's rows", x.told(0, 2), 4);
            due.is("the fifth does not hold", x.holds(0, 0, 1, 1, 0, -7), 0);
            int[][] cases = {{-3, -5, 1}, {4, 6, 1}, {-4, 0, 0}, {5, 0, 0}, {0, -6, 0}, {0, 7, 0}};
            for (int[] c : cases) {
                x.put(0, 0, c[0]);
                x.put(0, 1, c[1]);
                due.is("open at " + c[0] + ", " + c[1], x.open(0), c[2]);
                due.is("go at " + c[0] + ", " + c[1], x.go(0, 0), c[2]);
                due.is("step at " + c[0] + ", " + c[1], x.step(0), c[2] - 1);
            }
        }
    }

    /** "A WAY more: its number."; "3 at most": each of the three counts. */
    private static void waysUpToThree() {
        FallingTerms x = new FallingTerms();
        x.loop(1);
        for (int way = 0; way < 3; way++) {
            due.is("empty before there is a way", x.empty(0, way), UNKNOWN);
            due.is("go before there is a way", x.go(0, way), UNKNOWN);
            due.is("way", x.way(0), way);
            due.is("ways", x.told(0, 1), way + 1);
            due.is("open", x.open(0), (2 << way) - 1);
            due.is("prove", x.prove(0), 0);
            due.is("left", x.left(), (2 << way) - 1);
            x.constant(0, way, 0, 10 * way);
        }
        due.is("a fourth", x.way(0), ROOM);
        due.is("ways", x.told(0, 1), 3);
        due.is("open", x.open(0), 7);
        due.is("left", x.left(), 7);
        due.is("go(0, 2)", x.go(0, 2), 1);
        due.is("at", x.at(0, 0), 20);
        due.is("go(0, 3)", x.go(0, 3), UNKNOWN);
    }

    /** "A ROW more of a WAY: how many it has."; "2 at most": each of the two counts, on its way alone. */
    private static void rowsUpToTwo() {
        for (int way = 0; way < 3; way++) {
            FallingTerms x = new FallingTerms();
            x.loop(3);
            x.way(0);
            x.way(0);
            x.way(0);
            due.is("row 1", x.row(0, way, 0, 1, 0, 2), 1);
            due.is("row 2", x.row(0, way, 0, 0, 1, 3), 2);
            due.is("row 3", x.row(0, way, 1, 0, 0, 4), ROOM);
            due.is("guard's rows", x.told(0, 2), 0);
            for (int other = 0; other < 3; other++) {
                due.is("row 1 holds", x.holds(0, other, 0, 1, 0, 2), other == way ? 1 : 0);
                due.is("row 2 holds", x.holds(0, other, 0, 0, 1, 3), other == way ? 1 : 0);
                due.is("row 3 does not", x.holds(0, other, 1, 0, 0, -4), 0);
            }
            int[][] cases = {{1, 3, 0}, {2, 2, 0}, {2, 3, 1}};
            for (int[] c : cases) {
                x.put(0, 1, c[0]);
                x.put(0, 2, c[1]);
                due.is("open", x.open(0), c[2] == 1 ? 7 : 7 - (1 << way));
                due.is("go", x.go(0, way), c[2]);
            }
        }
    }

    /** A way's rows and change are no other way's, and come as at first. */
    private static void eachWayIsItsOwn() {
        FallingTerms x = new FallingTerms();
        x.loop(2);
        for (int way = 0; way < 3; way++) {
            x.way(0);
            due.is("factor at first", x.factor(0, way, 0, 0, way), 4);
            due.is("factor at first", x.factor(0, way, 0, 1, -way), 3);
            due.is("factor at first", x.factor(0, way, 1, 0, way + 1), 3);
            due.is("factor at first", x.factor(0, way, 1, 1, 0), 4);
            due.is("constant at first", x.constant(0, way, 0, 7 * way), 99);
            due.is("constant at first", x.constant(0, way, 1, -way), 99);
        }
        for (int way = 0; way < 3; way++) {
            x.put(0, 0, 100);
            x.put(0, 1, 30);
            due.is("go", x.go(0, way), 1);
            // All at once, by what they were.
            due.is("first", x.at(0, 0), 70 * way + 7 * way);
            due.is("second", x.at(0, 1), 100 * (way + 1) - way);
        }
    }

    /** A row that is there already is a row more. */
    private static void sameRowTwice() {
        FallingTerms x = new FallingTerms();
        x.loop(3);
        x.way(0);
        for (int i = 1; i <= 4; i++) {
            due.is("the same guard", x.guard(0, 1, 2, 3, 4), i);
        }
        due.is("the same row", x.row(0, 0, 1, 2, 3, 4), 1);
        due.is("the same row", x.row(0, 0, 1, 2, 3, 4), 2);
        due.is("empty", x.empty(0, 0), 0);
        due.is("holds", x.holds(0, 0, 1, 2, 3, 4), 1);
        due.is("holds no more", x.holds(0, 0, 1, 2, 3, 5), 0);
        due.is("holds nothing else", x.holds(0, 0, 1, 2, 2, 4), 0);
    }

    /** "An object is used for at most 512 calls after it has been made": the last one is answered as the first. */
    private static void allOf512Calls() {
        FallingTerms x = new FallingTerms();
        for (int i = 0; i < 256; i++) {
            due.is("loop behind " + 2 * i + " calls", x.loop(1 + i % 3), 0);
            due.is("clear() behind " + (2 * i + 1) + " calls", x.clear(), 1);
        }
        x = new FallingTerms();
        x.loop(3);
        x.way(0);
        x.constant(0, 0, 0, 1);
        for (int i = 0; i < 507; i++) {
            due.is("walk behind " + (i + 3) + " calls", x.walk(0, 1000), 1000);
        }
        due.is("prove, the 511th call", x.prove(0), 0);
        due.is("at, the 512th call", x.at(0, 0), 507000);
    }
}
