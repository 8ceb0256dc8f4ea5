/**
 * What is gone through in an order, and the first that fits is taken: terms of a proof, rows of a need,
 * states of a ring, ways of the walk.
 */
public final class OrderTest {
    private static final Due due = new Due();

    public static void main(String[] args) {
        termsByT();
        termsByU();
        termsByV();
        lesserTermsFirst();
        firstAndLastTerm();
        searchBeginsAnew();
        staysOnAllThatAreLeft();
        boundedAndFallsOnOne();
        takesAllOfThese();
        leftInTheEnd();
        rowsByA();
        rowsByB();
        rowsByC();
        rowsByD();
        firstAndLastRow();
        lastsOnEachWay();
        statesByName();
        firstAndLastState();
        leastOfGoingsOn();
        leadsIntoRings();
        waysOfTheWalk();
        due.finish();
    }

    /** Ways with this many names; the rows are the guard's. */
    private static FallingTerms made(int names, int ways, int[]... rows) {
        FallingTerms x = new FallingTerms();
        x.loop(names);
        for (int i = 0; i < ways; i++) {
            x.way(0);
        }
        for (int[] r : rows) {
            x.guard(0, r[0], r[1], r[2], r[3]);
        }
        return x;
    }

    private static int[] row(int... numbers) {
        return numbers;
    }

    private static void proofIs(String of, FallingTerms x, int left, int[]... want) {
        due.is(of + ": prove", x.prove(0), left == 0 ? 1 : 0);
        due.is(of + ": left", x.left(), left);
        for (int k = 0; k < want.length; k++) {
            for (int what = 0; what < 4; what++) {
                due.is(of + ": proof(" + k + ", " + what + ")", x.proof(k, what), want[k][what]);
            }
        }
        for (int what = 0; what < 4; what++) {
            due.is(of + ": no more terms", x.proof(want.length, what), -1000);
        }
    }

    private static void needIs(String of, FallingTerms x, int a, int b, int c, int d) {
        due.is(of + ": need", x.need(0), 1);
        due.is(of + ": a", x.needed(0), a);
        due.is(of + ": b", x.needed(1), b);
        due.is(of + ": c", x.needed(2), c);
        due.is(of + ": d", x.needed(3), d);
    }

    // "the first TERM (by t, of those by u, of those by v, the lesser ones first)"

    private static void termsByT() {
        FallingTerms x = made(2, 1, row(1, 0, 0, 0), row(0, 1, 0, 0));
        x.constant(0, 0, 0, -1);
        x.constant(0, 0, 1, -1);
        // x alone, y alone and more of both fall: t is 0 for y.
        proofIs("x and y fall", x, 0, row(0, 1, 0, 1));
    }

    private static void termsByU() {
        FallingTerms x = made(3, 1, row(0, 1, 0, 0), row(0, 0, 1, 0));
        x.constant(0, 0, 1, -1);
        x.constant(0, 0, 2, -1);
        proofIs("y and z fall", x, 0, row(0, 0, 1, 1));
        x.guard(0, 1, 0, 0, 0);
        x.constant(0, 0, 0, -1);
        proofIs("all fall", x, 0, row(0, 0, 1, 1));
        x = made(3, 1, row(1, 0, 0, 0), row(0, 1, 0, 0));
        x.constant(0, 0, 0, -1);
        x.constant(0, 0, 1, -1);
        proofIs("x and y fall, z is anything", x, 0, row(0, 1, 0, 1));
    }

    private static void termsByV() {
        // z is between 0 and 5 and stays: with it x falls as well.
        FallingTerms x = made(3, 1, row(1, 0, 0, 0), row(0, 0, 1, 0), row(0, 0, -1, -5));
        x.constant(0, 0, 0, -1);
        proofIs("x falls, z is bounded", x, 0, row(1, 0, -2, 1));
        x.row(0, 0, 0, 1, 0, 0);
        proofIs("x falls, y from 0, z is bounded", x, 0, row(1, 0, -2, 1));
        x.row(0, 0, 0, -1, 0, -5);
        proofIs("x falls, y and z are bounded", x, 0, row(1, -2, -2, 1));
    }

    private static void lesserTermsFirst() {
        FallingTerms x = made(1, 1, row(-1, 0, 0, 0));
        x.constant(0, 0, 0, 1);
        proofIs("x rises to 0", x, 0, row(-2, 0, 0, 1));
        x = made(1, 1, row(1, 0, 0, 0));
        x.constant(0, 0, 0, -1);
        proofIs("x falls to 0", x, 0, row(1, 0, 0, 1));
        x = made(2, 1, row(-1, 0, 0, 0), row(0, 1, 0, 0));
        x.constant(0, 0, 0, 1);
        x.constant(0, 0, 1, -1);
        proofIs("x rises, y falls", x, 0, row(-2, 0, 0, 1));
        // Less by 1/2 or more: twice x only.
        x = made(1, 1, row(2, 0, 0, 1));
        x.factor(0, 0, 0, 0, 0);
        proofIs("x from 1/2 becomes 0", x, 0, row(2, 0, 0, 1));
        x = made(1, 1, row(3, 0, 0, 1));
        x.factor(0, 0, 0, 0, 0);
        proofIs("x from 1/3 becomes 0", x, 1);
    }

    /** The sum s of three names; x becomes what makes it 0. */
    private static FallingTerms sumBecomesNone(int sign) {
        FallingTerms x = made(3, 1, row(2 * sign, 2 * sign, 2 * sign, 1));
        x.factor(0, 0, 0, 0, 0);
        x.factor(0, 0, 0, 1, -1);
        x.factor(0, 0, 0, 2, -1);
        return x;
    }

    /** "each -2 to 2" */
    private static void firstAndLastTerm() {
        proofIs("the last term of all", sumBecomesNone(1), 0, row(2, 2, 2, 1));
        proofIs("the first term of all", sumBecomesNone(-1), 0, row(-2, -2, -2, 1));
    }

    /** "Again and again the first TERM": behind each that takes something it begins with the first one. */
    private static void searchBeginsAnew() {
        FallingTerms x = made(2, 2);
        // On way 0 x falls and y too, on way 1 y rises to 0: -2y comes before x, but not on way 0.
        x.row(0, 0, 1, 0, 0, 0);
        x.constant(0, 0, 0, -1);
        x.constant(0, 0, 1, -1);
        x.row(0, 1, 0, -1, 0, 0);
        x.constant(0, 1, 1, 1);
        proofIs("begins anew", x, 0, row(1, 0, 0, 1), row(0, -2, 0, 2));
    }

    /** "that STAYS on all WAYS that are LEFT": on others it may rise. */
    private static void staysOnAllThatAreLeft() {
        FallingTerms x = made(2, 2, row(1, 0, 0, 0), row(0, 1, 0, 0));
        x.constant(0, 0, 0, -1);
        x.constant(0, 0, 1, 5);
        x.constant(0, 1, 1, -1);
        proofIs("y rises where x has fallen", x, 0, row(1, 0, 0, 1), row(0, 1, 0, 2));
        x.constant(0, 1, 0, 1);
        proofIs("both rise somewhere", x, 3);
        x.constant(0, 1, 0, 0);
        x.constant(0, 0, 0, 0);
        proofIs("x stays, y rises and falls", x, 3);
        x.constant(0, 0, 1, 0);
        proofIs("one stands still", x, 1, row(0, 1, 0, 2));
    }

    /** "and on one of these at least is BOUNDED and FALLS": both on the same one. */
    private static void boundedAndFallsOnOne() {
        FallingTerms x = made(1, 2);
        x.row(0, 0, 1, 0, 0, 0);
        x.constant(0, 1, 0, -1);
        due.is("bounded and stays", x.term(0, 0, 1, 0, 0), 3);
        due.is("stays and falls", x.term(0, 1, 1, 0, 0), 6);
        proofIs("bounded on one, falls on the other", x, 3);
        x.row(0, 1, 1, 0, 0, 0);
        proofIs("bounded on both, falls on the other", x, 1, row(1, 0, 0, 2));
    }

    /** "TAKES all of these on which it is BOUNDED and FALLS" */
    private static void takesAllOfThese() {
        for (int taken = 1; taken < 8; taken++) {
            FallingTerms x = made(1, 3, row(1, 0, 0, 0));
            for (int way = 0; way < 3; way++) {
                x.constant(0, way, 0, (taken >> way & 1) != 0 ? -1 - way : 0);
            }
            proofIs("takes " + taken, x, 7 - taken, row(1, 0, 0, taken));
        }
        FallingTerms x = made(2, 3, row(1, 0, 0, 0), row(0, 1, 0, 0));
        x.constant(0, 0, 0, -1);
        x.constant(0, 1, 1, -1);
        x.constant(0, 2, 0, -1);
        x.constant(0, 2, 1, 9);
        // y rises on way 2, x stays on way 1.
        proofIs("takes the first and the last", x, 0, row(1, 0, 0, 5), row(0, 1, 0, 2));
    }

    /** "The WAYS that were LEFT in the end by the latest prove() (bits; 0 without one)." */
    private static void leftInTheEnd() {
        FallingTerms x = made(2, 3, row(1, 0, 0, 0), row(0, 1, 0, 0));
        due.is("left() without a prove()", x.left(), 0);
        due.is("need()", x.need(0), 1);
        due.is("left() with a need() alone", x.left(), 0);
        x.constant(0, 0, 0, -1);
        x.constant(0, 2, 1, -1);
        proofIs("two terms, one way left", x, 2, row(0, 1, 0, 4), row(1, 0, 0, 1));
        x.constant(0, 2, 1, 0);
        due.is("left() behind a change", x.left(), 2);
        due.is("proof() behind a change", x.proof(1, 3), 1);
        proofIs("the latest prove() has one term less", x, 6, row(1, 0, 0, 1));
    }

    // "the first ROW (a, b, c each -1 to 1, d -2 to 2; by a, by b, by c, by d, the lesser ones first)"

    /** Each name is doubled, between -50 and 50: it must be less than 0 at the start, or more. */
    private static FallingTerms doubled(int names, int first) {
        FallingTerms x = made(names, 1);
        for (int name = first; name < names; name++) {
            x.factor(0, 0, name, name, 2);
            int a = name == 0 ? 1 : 0;
            int b = name == 1 ? 1 : 0;
            int c = name == 2 ? 1 : 0;
            boolean full = x.guard(0, a, b, c, -50) < 0;
            if (full) {
                x.row(0, 0, a, b, c, -50);
                x.row(0, 0, -a, -b, -c, -50);
            } else {
                x.guard(0, -a, -b, -c, -50);
            }
        }
        return x;
    }

    private static void rowsByA() {
        needIs("x doubled", doubled(1, 0), -1, 0, 0, 1);
        needIs("x and y doubled", doubled(2, 0), -1, -1, 0, 1);
        needIs("x, y and z doubled", doubled(3, 0), -1, -1, -1, 1);
        // What is less than 0 of two together does not last if one of them is tripled.
        FallingTerms x = doubled(2, 0);
        x.factor(0, 0, 1, 1, 3);
        needIs("x doubled, y tripled", x, -1, 0, 0, 1);
        x = doubled(2, 0);
        x.factor(0, 0, 0, 0, 3);
        needIs("x tripled, y doubled", x, -1, 0, 0, 1);
        x = doubled(1, 0);
        x.constant(0, 0, 0, 3);
        // 2x + 3: from -2 on it rises by 1; -x >= 4 is beyond the rows.
        needIs("x doubled and 3", x, 1, 0, 0, -2);
    }

    private static void rowsByB() {
        needIs("y doubled", doubled(2, 1), 0, -1, 0, 1);
        needIs("y and z doubled", doubled(3, 1), 0, -1, -1, 1);
        FallingTerms x = doubled(3, 1);
        x.factor(0, 0, 2, 2, 3);
        needIs("y doubled, z tripled", x, 0, -1, 0, 1);
        x = doubled(3, 1);
        x.factor(0, 0, 1, 1, 3);
        needIs("y tripled, z doubled", x, 0, -1, 0, 1);
    }

    private static void rowsByC() {
        needIs("z doubled", doubled(3, 2), 0, 0, -1, 1);
        FallingTerms x = doubled(3, 2);
        x.constant(0, 0, 2, 2);
        // 2z + 2: below -2 it falls (-z >= 3 is no such row), above -2 it rises.
        needIs("z doubled and 2", x, 0, 0, 1, -1);
    }

    private static void rowsByD() {
        // x + y becomes twice itself and 1: from -2 down it falls. For x alone -1 is enough, but it comes later.
        FallingTerms sum = doubled(2, 0);
        sum.constant(0, 0, 1, 1);
        needIs("x + y doubled and 1", sum, -1, -1, 0, 2);
        for (int constant = -1; constant <= 5; constant++) {
            FallingTerms x = made(1, 1, row(-1, 0, 0, -50));
            x.factor(0, 0, 0, 0, 2);
            x.constant(0, 0, 0, constant);
            needIs("up to 50, doubled and " + constant, x, 1, 0, 0, Math.max(-2, 1 - constant));
        }
        for (int constant = -5; constant <= 1; constant++) {
            FallingTerms x = made(1, 1, row(1, 0, 0, -50));
            x.factor(0, 0, 0, 0, 2);
            x.constant(0, 0, 0, constant);
            needIs("from -50, doubled and " + constant, x, -1, 0, 0, Math.max(-2, 1 + constant));
        }
    }

    /** The sum s of three names becomes 2s and a constant, while it is at most 50 away. */
    private static FallingTerms sumDoubled(int sign, int constant) {
        FallingTerms x = made(3, 1, row(sign, sign, sign, -50));
        x.factor(0, 0, 0, 0, 2);
        x.factor(0, 0, 0, 1, 1);
        x.factor(0, 0, 0, 2, 1);
        x.constant(0, 0, 0, constant);
        return x;
    }

    private static void firstAndLastRow() {
        needIs("the first row of all", sumDoubled(1, -3), -1, -1, -1, -2);
        needIs("the same, with more to spare", sumDoubled(1, -4), -1, -1, -1, -2);
        needIs("the last row of all", sumDoubled(-1, -1), 1, 1, 1, 2);
        FallingTerms x = sumDoubled(-1, -2);
        due.is("behind the last row there is none", x.need(0), 0);
        due.is("behind the last row there is none", x.needed(0), -1000);
        x = sumDoubled(1, 2);
        due.is("-s >= 3 is no row", x.need(0), 0);
    }

    /** From -50 on x is doubled on all ways but one, on which y falls to 0 and x becomes a number. */
    private static FallingTerms doubledButOn(int falls, int becomes) {
        FallingTerms x = made(2, 3, row(1, 0, 0, -50));
        for (int way = 0; way < 3; way++) {
            x.factor(0, way, 0, 0, 2);
        }
        x.row(0, falls, 0, 1, 0, 0);
        x.constant(0, falls, 1, -1);
        x.factor(0, falls, 0, 0, 0);
        x.constant(0, falls, 0, becomes);
        return x;
    }

    /** "A ROW LASTS, if on each WAY everywhere in THE SPACE where it holds it holds behind the CHANGE." */
    private static void lastsOnEachWay() {
        for (int becomes = -2; becomes <= 2; becomes++) {
            for (int falls = 0; falls < 3; falls++) {
                FallingTerms x = doubledButOn(falls, becomes);
                if (becomes <= -1) {
                    needIs("x becomes " + becomes + " on way " + falls, x, -1, 0, 0, 1);
                } else {
                    due.is("x becomes " + becomes + " on way " + falls + ": need", x.need(0), 0);
                }
            }
        }
        // Only in the space: from y = least on 2x + y + 3 keeps x >= 1, or x >= 2; for lesser y it does not.
        for (int least = -4; least <= -3; least++) {
            FallingTerms x = made(2, 1, row(0, 1, 0, least), row(-1, 0, 0, -50));
            x.factor(0, 0, 0, 0, 2);
            x.factor(0, 0, 0, 1, 1);
            x.constant(0, 0, 0, 3);
            needIs("y from " + least, x, 1, 0, 0, -2 - least);
        }
        // Where it does not hold it need not hold behind the change either: x = 0 becomes 5 or -5.
        FallingTerms x = made(1, 2, row(1, 0, 0, -50));
        x.row(0, 0, -1, 0, 0, 0);
        x.factor(0, 0, 0, 0, 2);
        x.row(0, 1, 1, 0, 0, 0);
        x.row(0, 1, -1, 0, 0, 0);
        x.constant(0, 1, 0, 5);
        needIs("not where it does not hold", x, -1, 0, 0, 1);
    }

    // "The first STATE (each number from -size to size; by NAME 0, then 1, then 2, the lesser ones first)"

    private static void ringIs(String of, FallingTerms x, int size, int length, int... state) {
        due.is(of + ": ring", x.ring(0, size), length);
        for (int name = 0; name < state.length; name++) {
            due.is(of + ": name " + name, x.at(0, name), state[name]);
        }
    }

    private static void statesByName() {
        ringIs("x + y >= 0", made(2, 1, row(1, 1, 0, 0)), 1, 1, -1, 1);
        ringIs("x + y >= 0", made(2, 1, row(1, 1, 0, 0)), 6, 1, -6, 6);
        ringIs("x + y >= 3", made(2, 1, row(1, 1, 0, 3)), 2, 1, 1, 2);
        ringIs("y + z >= 0", made(3, 1, row(0, 1, 1, 0)), 1, 1, -1, -1, 1);
        ringIs("x + z >= 0", made(3, 1, row(1, 0, 1, 0)), 1, 1, -1, -1, 1);
        ringIs("x + y + z >= 0", made(3, 1, row(1, 1, 1, 0)), 1, 1, -1, 0, 1);
        ringIs("x + y + z >= 3", made(3, 1, row(1, 1, 1, 3)), 2, 1, -1, 2, 2);
        ringIs("x >= y + 3, y >= z", made(3, 1, row(1, -1, 0, 3), row(0, 1, -1, 0)), 2, 1, 1, -2, -2);
    }

    private static void firstAndLastState() {
        for (int size = 0; size <= 6; size++) {
            for (int names = 1; names <= 3; names++) {
                int b = names > 1 ? 1 : 0;
                int c = names > 2 ? 1 : 0;
                int[] first = new int[names];
                int[] last = new int[names];
                for (int name = 0; name < names; name++) {
                    first[name] = -size;
                    last[name] = size;
                }
                ringIs("the first state", made(names, 1), size, 1, first);
                FallingTerms x = made(names, 1, row(1, b, c, size * names));
                ringIs("the last state", x, size, 1, last);
                x = made(names, 1, row(1, b, c, size * names + 1));
                x.put(0, 0, 77);
                ringIs("behind the last state there is none", x, size, 0, 77);
            }
        }
    }

    /** "from which THE WALK is there again behind 1 to 200 of its goings on ..; behind how many (the least)" */
    private static void leastOfGoingsOn() {
        for (int length = 1; length <= 203; length++) {
            // 0, 1, .. length - 1, and 0 again.
            FallingTerms x = made(1, 2);
            x.row(0, 0, -1, 0, 0, 2 - length);
            x.constant(0, 0, 0, 1);
            x.factor(0, 1, 0, 0, 0);
            x.put(0, 0, 1000);
            ringIs("a ring of " + length, x, 0, length <= 200 ? length : 0, length <= 200 ? 0 : 1000);
            if (length <= 200) {
                due.is("the walk of a ring of " + length, x.walk(0, length), length);
                due.is("is there again", x.at(0, 0), 0);
            }
        }
        // From -6 .. -1 the walk leads into the ring, and is not there again.
        FallingTerms x = made(1, 2);
        x.row(0, 0, -1, 0, 0, -3);
        x.constant(0, 0, 0, 1);
        x.factor(0, 1, 0, 0, 0);
        ringIs("behind a lead", x, 6, 5, 0);
        // Signs are turned: 0 is there again behind 1, all else behind 2.
        x = made(1, 1);
        x.factor(0, 0, 0, 0, -1);
        ringIs("turned signs", x, 0, 1, 0);
        ringIs("turned signs", x, 3, 2, -3);
        // Three names take one another's place.
        x = made(3, 1, row(1, 1, 1, 2), row(-1, -1, -1, -2));
        for (int name = 0; name < 3; name++) {
            x.factor(0, 0, name, name, 0);
            x.factor(0, 0, name, (name + 1) % 3, 1);
        }
        ringIs("three places", x, 2, 3, -2, 2, 2);
        ringIs("three places", x, 1, 3, 0, 1, 1);
    }

    /** Starts before the first ring lead into it, and are not there again themselves. */
    private static void leadsIntoRings() {
        for (int length = 1; length <= 201; length++) {
            for (int size = 0; size <= 6; size++) {
                // .. -2, -1, 0, 1, .. length - 1, and 0 again.
                FallingTerms x = made(1, 2);
                x.row(0, 0, -1, 0, 0, 2 - length);
                x.constant(0, 0, 0, 1);
                x.factor(0, 1, 0, 0, 0);
                ringIs("leads from -" + size + " into a ring of " + length, x, size, length <= 200 ? length : 0, 0);
            }
        }
        for (int size = 0; size <= 6; size++) {
            // .. -3, -2, -1, 1, 0, 1, ..
            FallingTerms x = made(1, 3);
            x.row(0, 0, -1, 0, 0, 2);
            x.constant(0, 0, 0, 1);
            x.row(0, 1, -1, 0, 0, 0);
            x.factor(0, 1, 0, 0, 0);
            x.constant(0, 1, 0, 1);
            x.factor(0, 2, 0, 0, 0);
            ringIs("leads from -" + size + " into 1 and 0", x, size, 2, 0);
        }
    }

    /** "THE WALK goes by the first WAY each time that is OPEN." */
    private static void waysOfTheWalk() {
        for (int open = 0; open < 8; open++) {
            FallingTerms x = made(1, 3);
            for (int way = 0; way < 3; way++) {
                x.constant(0, way, 0, way + 1);
                if ((open >> way & 1) == 0) {
                    x.row(0, way, 1, 0, 0, 1);
                    x.row(0, way, -1, 0, 0, 0);
                }
            }
            int first = open == 0 ? -1 : Integer.numberOfTrailingZeros(open);
            due.is("open " + open, x.open(0), open);
            due.is("step of " + open, x.step(0), first);
            due.is("at behind a step of " + open, x.at(0, 0), first + 1);
            due.is("walk of " + open, x.walk(0, 10), open == 0 ? 0 : 10);
            due.is("at behind a walk of " + open, x.at(0, 0), 11 * (first + 1));
            for (int way = 0; way < 3; way++) {
                x.put(0, 0, 0);
                int isOpen = open >> way & 1;
                due.is("go " + way + " of " + open, x.go(0, way), isOpen);
                due.is("at behind it", x.at(0, 0), isOpen * (way + 1));
            }
        }
    }
}
