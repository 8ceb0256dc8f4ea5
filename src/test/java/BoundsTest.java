/**
 * The bounds of each number that the document names: the least and the greatest one that is allowed are
 * taken and do what they say, the next one beyond each and the least and the greatest int are not.
 */
public final class BoundsTest {
    private static final int OUTSIDE = -3;
    private static final int MIN = Integer.MIN_VALUE, MAX = Integer.MAX_VALUE;
    private static final Due due = new Due();

    public static void main(String[] args) {
        namesOfALoop();
        weightsOfARow();
        sumOfARow();
        rowHoldsFromItsSumOn();
        rowsOfGreatestNumbers();
        factors();
        greatestFactorsAndConstants();
        constants();
        weightsOfATerm();
        termsOfGreatestNumbers();
        numberThatIsPut();
        goingsOnOfAWalk();
        sizeOfARing();
        whatIsTold();
        placesOfAProof();
        placesOfANeed();
        due.finish();
    }

    private static FallingTerms oneWay(int names) {
        FallingTerms x = new FallingTerms();
        x.loop(names);
        x.way(0);
        return x;
    }

    /** All numbers from a little below the least to a little above the greatest, and those far away. */
    private static int[] around(int least, int greatest) {
        int[] far = {MIN, MIN + 1, -(1 << 30), 1 << 30, MAX - 1, MAX};
        int[] all = new int[greatest - least + 7 + far.length];
        for (int i = 0; i < all.length; i++) {
            all[i] = i < far.length ? far[i] : least - 3 + i - far.length;
        }
        return all;
    }

    private static boolean within(int v, int least, int greatest) {
        return v >= least && v <= greatest;
    }

    /** "NAMES 0 .. n - 1 (n 1 to 3)" */
    private static void namesOfALoop() {
        for (int names : around(1, 3)) {
            FallingTerms x = new FallingTerms();
            boolean taken = within(names, 1, 3);
            due.is("loop(" + names + ")", x.loop(names), taken ? 0 : OUTSIDE);
            due.is("loops() behind loop(" + names + ")", x.loops(), taken ? 1 : 0);
            for (int name = 0; taken && name < 4; name++) {
                due.is("put(0, " + name + ") of " + names, x.put(0, name, 1), name < names ? 1 : -2);
            }
        }
    }

    /** "a, b, c from -9 to 9, not all 0, those of NAMES that there are not 0" */
    private static void weightsOfARow() {
        for (int v : around(-9, 9)) {
            for (int names = 1; names <= 3; names++) {
                for (int place = 0; place < 3; place++) {
                    boolean alone = place < names ? v != 0 && within(v, -9, 9) : false;
                    weights(names, place == 0 ? v : 0, place == 1 ? v : 0, place == 2 ? v : 0, alone);
                    boolean beside = place < names ? within(v, -9, 9) : v == 0;
                    if (place > 0) {
                        weights(names, 1, place == 1 ? v : 0, place == 2 ? v : 0, beside);
                    } else if (names > 1) {
                        weights(names, v, -1, 0, beside);
                    }
                }
            }
        }
    }

    private static void weights(int names, int a, int b, int c, boolean taken) {
        String row = names + " names: " + a + ", " + b + ", " + c + ", 0";
        FallingTerms x = oneWay(names);
        due.is("holds, " + row, x.holds(0, 0, a, b, c, 0), taken ? 0 : OUTSIDE);
        due.is("guard, " + row, x.guard(0, a, b, c, 0), taken ? 1 : OUTSIDE);
        due.is("row, " + row, x.row(0, 0, a, b, c, 0), taken ? 1 : OUTSIDE);
        due.is("guard's rows, " + row, x.told(0, 2), taken ? 1 : 0);
    }

    /** "d from -1000 to 1000" */
    private static void sumOfARow() {
        for (int d : around(-1000, 1000)) {
            FallingTerms x = oneWay(1);
            boolean taken = within(d, -1000, 1000);
            due.is("holds, d " + d, x.holds(0, 0, 1, 0, 0, d), taken ? 0 : OUTSIDE);
            due.is("guard, d " + d, x.guard(0, 1, 0, 0, d), taken ? 1 : OUTSIDE);
            due.is("row, d " + d, x.row(0, 0, 1, 0, 0, d), taken ? 1 : OUTSIDE);
        }
    }

    /** "A ROW .. holds .., if .. are d or more together" */
    private static void rowHoldsFromItsSumOn() {
        for (int d : new int[] {-1000, -999, -1, 0, 1, 999, 1000}) {
            for (int name = 0; name < 3; name++) {
                FallingTerms x = oneWay(3);
                x.guard(0, name == 0 ? 1 : 0, name == 1 ? 1 : 0, name == 2 ? 1 : 0, d);
                x.put(0, name, d - 1);
                due.is("open, d less 1 for d " + d, x.open(0), 0);
                x.put(0, name, d);
                due.is("open, d for d " + d, x.open(0), 1);
                x.put(0, name, d + 1);
                due.is("open, d and 1 for d " + d, x.open(0), 1);
            }
            FallingTerms x = oneWay(1);
            x.row(0, 0, -1, 0, 0, d);
            x.put(0, 0, -d);
            due.is("open, a row of the way, d " + d, x.open(0), 1);
            x.put(0, 0, 1 - d);
            due.is("open, a row of the way, less than d " + d, x.open(0), 0);
        }
    }

    /** The same with the greatest weights, in a state and everywhere in a space. */
    private static void rowsOfGreatestNumbers() {
        FallingTerms x = oneWay(3);
        x.guard(0, 9, -9, 9, 1000);
        int[][] cases = {{1000000, -1000000, 1000000, 1}, {-1000000, 1000000, -1000000, 0}, {37, -37, 37, 0},
            {38, -37, 37, 1}, {37, -38, 37, 1}, {37, -37, 38, 1}, {0, 0, 112, 1}, {0, -111, 0, 0}};
        for (int[] c : cases) {
            for (int name = 0; name < 3; name++) {
                x.put(0, name, c[name]);
            }
            due.is("9x - 9y + 9z >= 1000 at " + c[0] + ", " + c[1] + ", " + c[2], x.open(0), c[3]);
        }
        due.is("9x - 9y + 9z >= 1000 holds", x.holds(0, 0, 9, -9, 9, 1000), 1);
        due.is("9x - 9y + 9z >= 999 holds", x.holds(0, 0, 9, -9, 9, 999), 1);
        due.is("x - y + z >= 111 holds", x.holds(0, 0, 1, -1, 1, 111), 1);
        due.is("x - y + z >= 112 holds", x.holds(0, 0, 1, -1, 1, 112), 0);
        x.row(0, 0, -9, 9, -9, -1000);
        due.is("and -9x + 9y - 9z >= -1000: empty", x.empty(0, 0), 0);
        due.is("-x + y - z >= -112 holds", x.holds(0, 0, -1, 1, -1, -112), 1);
        due.is("-x + y - z >= -111 holds", x.holds(0, 0, -1, 1, -1, -111), 0);
        x.row(0, 0, -9, 9, -9, -999);
        due.is("and -9x + 9y - 9z >= -999: empty", x.empty(0, 0), 1);
    }

    /** "a FACTOR (-3 to 3)"; "what it was, and 3" */
    private static void factors() {
        for (int v : around(-3, 3)) {
            for (int place = 0; place < 9; place++) {
                FallingTerms x = oneWay(3);
                int name = place / 3;
                int other = place % 3;
                boolean taken = within(v, -3, 3);
                int first = name == other ? 1 : 0;
                due.is("factor " + v, x.factor(0, 0, name, other, v), taken ? first + 3 : OUTSIDE);
                int now = taken ? v : first;
                x.put(0, other, 1000);
                x.step(0);
                due.is("a name behind factor " + v, x.at(0, name), 1000L * now);
                due.is("factor behind " + v, x.factor(0, 0, name, other, 0), now + 3);
            }
        }
    }

    /** All factors and constants at their bounds at once. */
    private static void greatestFactorsAndConstants() {
        for (int sign = -1; sign <= 1; sign += 2) {
            FallingTerms x = oneWay(3);
            for (int name = 0; name < 3; name++) {
                for (int other = 0; other < 3; other++) {
                    x.factor(0, 0, name, other, 3 * sign);
                }
                x.constant(0, 0, name, 99 * sign);
                x.put(0, name, 1000000);
            }
            due.is("step", x.step(0), 0);
            for (int name = 0; name < 3; name++) {
                due.is("9000099", x.at(0, name), sign * 9000099L);
            }
        }
    }

    /** "a CONSTANT (-99 to 99)"; "what it was, and 99" */
    private static void constants() {
        for (int v : around(-99, 99)) {
            for (int name = 0; name < 3; name++) {
                FallingTerms x = oneWay(3);
                boolean taken = within(v, -99, 99);
                due.is("constant " + v, x.constant(0, 0, name, v), taken ? 99 : OUTSIDE);
                x.step(0);
                due.is("a name behind constant " + v, x.at(0, name), taken ? v : 0);
                due.is("another one", x.at(0, (name + 1) % 3), 0);
                due.is("constant behind " + v, x.constant(0, 0, name, 0), taken ? v + 99 : 99);
            }
        }
    }

    /** "A TERM is t, u, v (each -2 to 2, not all 0, those of NAMES that there are not 0)" */
    private static void weightsOfATerm() {
        int[] values = around(-2, 2);
        for (int names = 1; names <= 3; names++) {
            FallingTerms[] x = new FallingTerms[values.length];
            for (int i = 0; i < values.length; i++) {
                x[i] = oneWay(names);
                for (int u : values) {
                    for (int v : values) {
                        int t = values[i];
                        boolean taken = within(t, -2, 2) && within(u, -2, 2) && within(v, -2, 2)
                                && (t != 0 || u != 0 || v != 0) && (names > 1 || u == 0) && (names > 2 || v == 0);
                        due.is("term " + t + ", " + u + ", " + v + " of " + names, x[i].term(0, 0, t, u, v),
                                taken ? 2 : OUTSIDE);
                    }
                }
            }
        }
    }

    /** Terms at their bounds with factors and constants at theirs: the sum s of the names becomes 9s - 297. */
    private static void termsOfGreatestNumbers() {
        // Twice s is less by 594 - 16s: 0 at 297/8. Once s is less by 297 - 8s: 1 at 37.
        int[][] cases = {{-8, -297, 2, 2}, {-9, -335, 0, 0}, {-9, -334, 2, 2}, {-1, -37, 6, 6}, {-9, -333, 6, 6}};
        for (int[] c : cases) {
            FallingTerms x = ninefold();
            x.guard(0, c[0], c[0], c[0], c[1]);
            String of = c[0] + "s >= " + c[1] + ": ";
            due.is(of + "2s", x.term(0, 0, 2, 2, 2), c[2]);
            due.is(of + "s", x.term(0, 0, 1, 1, 1), c[3]);
            due.is(of + "-2s", x.term(0, 0, -2, -2, -2), 1);
            x.guard(0, 9, 9, 9, -1000);
            due.is(of + "2s, bounded", x.term(0, 0, 2, 2, 2), c[2] + 1);
        }
        FallingTerms x = ninefold();
        x.guard(0, 9, 9, 9, 336);
        due.is("9s >= 336: -2s", x.term(0, 0, -2, -2, -2), 6);
        due.is("9s >= 336: -s", x.term(0, 0, -1, -1, -1), 6);
        due.is("9s >= 336: 2s", x.term(0, 0, 2, 2, 2), 1);
    }

    private static FallingTerms ninefold() {
        FallingTerms x = oneWay(3);
        for (int name = 0; name < 3; name++) {
            for (int other = 0; other < 3; other++) {
                x.factor(0, 0, name, other, 3);
            }
            x.constant(0, 0, name, -99);
        }
        return x;
    }

    /** "v (-1000000 to 1000000)" */
    private static void numberThatIsPut() {
        for (int v : new int[] {MIN, MIN + 1, -1000002, -1000001, -1000000, -999999, -1, 0, 1, 999999, 1000000,
            1000001, 1000002, MAX - 1, MAX}) {
            for (int name = 0; name < 3; name++) {
                FallingTerms x = oneWay(3);
                x.put(0, name, 7);
                boolean taken = within(v, -1000000, 1000000);
                due.is("put " + v, x.put(0, name, v), taken ? 1 : OUTSIDE);
                due.is("at behind put " + v, x.at(0, name), taken ? v : 7);
                due.is("at, another name", x.at(0, (name + 1) % 3), 0);
            }
        }
    }

    /** "n (0 to 1000)" */
    private static void goingsOnOfAWalk() {
        for (int n : new int[] {MIN, MIN + 1, -2, -1, 0, 1, 2, 500, 999, 1000, 1001, 1002, MAX - 1, MAX}) {
            FallingTerms x = oneWay(1);
            x.constant(0, 0, 0, 1);
            boolean taken = within(n, 0, 1000);
            due.is("walk " + n, x.walk(0, n), taken ? n : OUTSIDE);
            due.is("at behind walk " + n, x.at(0, 0), taken ? n : 0);
        }
    }

    /** "OUTSIDE: size is not 0 to 6"; "each number from -size to size" */
    private static void sizeOfARing() {
        for (int size : around(0, 6)) {
            FallingTerms x = oneWay(2);
            x.put(0, 0, 9);
            boolean taken = within(size, 0, 6);
            due.is("ring " + size, x.ring(0, size), taken ? 1 : OUTSIDE);
            due.is("x behind ring " + size, x.at(0, 0), taken ? -size : 9);
            due.is("y behind ring " + size, x.at(0, 1), taken ? -size : 0);
        }
    }

    /** "how many NAMES (what = 0), WAYS (1), ROWS of the GUARD (2) .. OUTSIDE: what" */
    private static void whatIsTold() {
        FallingTerms x = oneWay(3);
        x.way(0);
        x.guard(0, 1, 0, 0, 0);
        for (int what : around(0, 2)) {
            due.is("told " + what, x.told(0, what), within(what, 0, 2) ? 3 - what : OUTSIDE);
        }
    }

    /** "the k-th TERM that TAKES something (what = 0, 1, 2), the WAYS that it TAKES (3; bits). -1000: none such" */
    private static void placesOfAProof() {
        FallingTerms x = oneWay(2);
        x.way(0);
        x.guard(0, 1, 0, 0, 0);
        x.guard(0, 0, 1, 0, 0);
        x.constant(0, 0, 0, -1);
        x.constant(0, 1, 1, -1);
        x.constant(0, 1, 0, 5);
        x.constant(0, 0, 1, 0);
        int[][] want = {{0, 1, 0, 2}, {1, 0, 0, 1}};
        due.is("prove", x.prove(0), 1);
        for (int k : around(0, 1)) {
            for (int what : around(0, 3)) {
                boolean told = within(k, 0, 1) && within(what, 0, 3);
                due.is("proof(" + k + ", " + what + ")", x.proof(k, what), told ? want[k][what] : -1000);
            }
        }
    }

    /** "a, b, c, d (i = 0 .. 3). -1000: .. another i" */
    private static void placesOfANeed() {
        FallingTerms x = oneWay(1);
        x.guard(0, 1, 0, 0, -50);
        x.factor(0, 0, 0, 0, 2);
        due.is("need", x.need(0), 1);
        int[] want = {-1, 0, 0, 1};
        for (int i : around(0, 3)) {
            due.is("needed(" + i + ")", x.needed(i), within(i, 0, 3) ? want[i] : -1000);
        }
    }
}
