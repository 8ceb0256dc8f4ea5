/**
 * "No number of a STATE is beyond 10^12 in size: a CHANGE that would make one is not made (LOST)." What
 * step, go, walk, open, at, put and ring answer at 10^12, just within and just beyond it.
 */
public final class GreatTest {
    private static final int NONE = -1, LOST = -5;
    private static final long GREAT = 1000000000000L;
    private static final Due due = new Due();

    public static void main(String[] args) {
        for (int sign = -1; sign <= 1; sign += 2) {
            justThere(sign);
            oneBeyond(sign);
            oneWithin(sign);
            toTheOtherSide(sign);
            sumsOfGreaterNumbers(sign);
            greatestSums(sign);
            rowsOfGreatNumbers(sign);
            stepAndWalk(sign);
            theFirstOpenWayIsLost(sign);
            putAndJudgeThere(sign);
            ringsThere(sign);
            ringThroughTheGreatest(sign);
        }
        walkTillLost();
        walkTillNoneIsOpen();
        ringIsLost();
        due.finish();
    }

    /**
     * A state with three names of just 10^12 (or -10^12). Way 0 made each one 5 times, way 1 each one
     * twice as great, from 10^6 on, six times each; way 2 is as at first.
     */
    private static FallingTerms great(int sign) {
        FallingTerms x = new FallingTerms();
        x.loop(3);
        for (int way = 0; way < 3; way++) {
            x.way(0);
        }
        for (int name = 0; name < 3; name++) {
            int other = (name + 1) % 3;
            x.factor(0, 0, name, name, 3);
            x.factor(0, 0, name, other, 2);
            x.factor(0, 1, name, other, 1);
            x.put(0, name, sign * 1000000);
        }
        for (int i = 0; i < 6; i++) {
            due.is("five times", x.go(0, 0), 1);
            due.is("twice", x.go(0, 1), 1);
        }
        stateIs("10^12", x, sign * GREAT, sign * GREAT, sign * GREAT);
        return x;
    }

    private static void stateIs(String of, FallingTerms x, long... want) {
        for (int name = 0; name < want.length; name++) {
            due.is(of + ": name " + name, x.at(0, name), want[name]);
        }
    }

    private static void staysGreat(String of, FallingTerms x, int sign) {
        stateIs(of + ", the state stays", x, sign * GREAT, sign * GREAT, sign * GREAT);
    }

    /** 10^12 itself is not beyond. */
    private static void justThere(int sign) {
        FallingTerms x = great(sign);
        due.is("a change to 10^12 itself", x.go(0, 2), 1);
        staysGreat("a change to 10^12 itself", x, sign);
        due.is("five times", x.go(0, 0), LOST);
        due.is("twice", x.go(0, 1), LOST);
        staysGreat("lost", x, sign);
    }

    /** One name more by 1 is lost, and no name changes, the others neither. */
    private static void oneBeyond(int sign) {
        for (int name = 0; name < 3; name++) {
            FallingTerms x = great(sign);
            for (int other = 0; other < 3; other++) {
                x.constant(0, 2, other, other == name ? sign : -50 * sign);
            }
            due.is("name " + name + " is 1 beyond", x.go(0, 2), LOST);
            staysGreat("name " + name + " is 1 beyond", x, sign);
            x.constant(0, 2, name, 0);
            due.is("name " + name + " is there", x.go(0, 2), 1);
            for (int other = 0; other < 3; other++) {
                due.is("name " + other, x.at(0, other), sign * (other == name ? GREAT : GREAT - 50));
            }
        }
    }

    private static void oneWithin(int sign) {
        for (int name = 0; name < 3; name++) {
            FallingTerms x = great(sign);
            x.constant(0, 2, name, -sign);
            due.is("1 less", x.go(0, 2), 1);
            due.is("1 less", x.at(0, name), sign * (GREAT - 1));
            x.constant(0, 2, name, 2 * sign);
            due.is("2 more", x.go(0, 2), LOST);
            due.is("2 more", x.at(0, name), sign * (GREAT - 1));
            x.constant(0, 2, name, sign);
            due.is("1 more", x.go(0, 2), 1);
            staysGreat("1 more", x, sign);
            due.is("1 more again", x.go(0, 2), LOST);
            staysGreat("1 more again", x, sign);
        }
    }

    private static void toTheOtherSide(int sign) {
        for (int name = 0; name < 3; name++) {
            FallingTerms x = great(sign);
            x.factor(0, 2, name, name, -1);
            x.constant(0, 2, name, -sign);
            due.is("1 beyond on the other side", x.go(0, 2), LOST);
            staysGreat("1 beyond on the other side", x, sign);
            x.constant(0, 2, name, 0);
            due.is("the other side", x.go(0, 2), 1);
            due.is("the other side", x.at(0, name), -sign * GREAT);
            due.is("another name", x.at(0, (name + 1) % 3), sign * GREAT);
            due.is("back again", x.go(0, 2), 1);
            staysGreat("back again", x, sign);
        }
    }

    /** Only what becomes of a name counts, not the parts of the sum. */
    private static void sumsOfGreaterNumbers(int sign) {
        int[][] factors = {{3, -2, 0}, {3, 0, -2}, {-2, 3, 0}, {3, -3, 1}, {-3, 3, -1}, {2, 2, -3}, {3, 1, -3}};
        for (int[] f : factors) {
            FallingTerms x = great(sign);
            int sum = f[0] + f[1] + f[2];
            for (int other = 0; other < 3; other++) {
                x.factor(0, 2, 1, other, f[other]);
            }
            x.constant(0, 2, 1, sum * sign);
            due.is("a sum 1 beyond", x.go(0, 2), LOST);
            staysGreat("a sum 1 beyond", x, sign);
            x.constant(0, 2, 1, 0);
            due.is("a sum of greater parts", x.go(0, 2), 1);
            stateIs("a sum of greater parts", x, sign * GREAT, sum * sign * GREAT, sign * GREAT);
        }
    }

    private static void greatestSums(int sign) {
        for (int factor = -3; factor <= 3; factor++) {
            FallingTerms x = great(sign);
            for (int other = 0; other < 3; other++) {
                x.factor(0, 2, 2, other, factor);
            }
            x.constant(0, 2, 2, factor < 0 ? -99 : 99);
            due.is("three times " + factor, x.go(0, 2), factor == 0 ? 1 : LOST);
            stateIs("three times " + factor, x, sign * GREAT, sign * GREAT, factor == 0 ? 99 : sign * GREAT);
        }
    }

    private static void rowsOfGreatNumbers(int sign) {
        FallingTerms x = great(sign);
        x.row(0, 0, 9, 9, 9, 1000);
        x.row(0, 1, -9, -9, -9, -1000);
        due.is("27 times 10^12", x.open(0), 4 + (sign > 0 ? 1 : 2));
        x = great(sign);
        x.row(0, 0, 9, -9, 0, 0);
        x.row(0, 1, 9, -9, 0, 1);
        due.is("differences", x.open(0), 5);
        x.constant(0, 2, 1, -sign);
        x.go(0, 2);
        // x less y is now the sign.
        due.is("differences of 1", x.open(0), sign > 0 ? 7 : 4);
        x.row(0, 1, 9, -9, 0, 10);
        due.is("differences of 1 are 9 at most", x.open(0), sign > 0 ? 5 : 4);
        x = great(sign);
        x.guard(0, sign, 0, 0, 1000);
        due.is("a guard that holds", x.open(0), 7);
        x.guard(0, 0, 0, -sign, -1000);
        due.is("a guard that does not", x.open(0), 0);
        due.is("step", x.step(0), NONE);
        due.is("go", x.go(0, 0), 0);
        due.is("walk", x.walk(0, 1000), 0);
        staysGreat("no way is open", x, sign);
    }

    /** Ways 0 and 1 are closed, so that the walk goes by way 2. */
    private static FallingTerms byTheLastWay(int sign) {
        FallingTerms x = great(sign);
        x.row(0, 0, -sign, 0, 0, 0);
        x.row(0, 1, -sign, 0, 0, 0);
        return x;
    }

    private static void stepAndWalk(int sign) {
        FallingTerms x = byTheLastWay(sign);
        due.is("open", x.open(0), 4);
        due.is("a step to 10^12 itself", x.step(0), 2);
        due.is("a walk to 10^12 itself", x.walk(0, 1000), 1000);
        staysGreat("a walk to 10^12 itself", x, sign);
        x.constant(0, 2, 2, sign);
        due.is("a step 1 beyond", x.step(0), LOST);
        due.is("a walk 1 beyond", x.walk(0, 1000), 0);
        due.is("a walk of 0", x.walk(0, 0), 0);
        staysGreat("a walk 1 beyond", x, sign);
        due.is("lost is open still", x.open(0), 4);
        x.constant(0, 2, 2, -sign);
        due.is("10 back", x.walk(0, 10), 10);
        due.is("10 back", x.at(0, 2), sign * (GREAT - 10));
        x.constant(0, 2, 2, sign);
        due.is("9 of 9", x.walk(0, 9), 9);
        due.is("9 of 9", x.at(0, 2), sign * (GREAT - 1));
        due.is("1 of 9", x.walk(0, 9), 1);
        staysGreat("1 of 9", x, sign);
        due.is("0 of 9", x.walk(0, 9), 0);
        x.constant(0, 2, 2, 3 * -sign);
        x.step(0);
        x.constant(0, 2, 2, 2 * sign);
        due.is("by 2 to 1 less", x.walk(0, 9), 1);
        due.is("by 2 to 1 less", x.at(0, 2), sign * (GREAT - 1));
    }

    /** "THE WALK goes by the first WAY each time that is OPEN", even if it is lost there and not by another. */
    private static void theFirstOpenWayIsLost(int sign) {
        FallingTerms x = great(sign);
        due.is("open", x.open(0), 7);
        due.is("step", x.step(0), LOST);
        due.is("walk", x.walk(0, 5), 0);
        due.is("go by another way", x.go(0, 2), 1);
        staysGreat("the first open way is lost", x, sign);
    }

    private static void putAndJudgeThere(int sign) {
        FallingTerms x = great(sign);
        due.is("empty", x.empty(0, 2), 0);
        due.is("term", x.term(0, 2, 1, 1, 1), 2);
        due.is("prove", x.prove(0), 0);
        due.is("need", x.need(0), 0);
        staysGreat("judged", x, sign);
        due.is("put beyond its bounds", x.put(0, 1, 1000001), -3);
        staysGreat("put beyond its bounds", x, sign);
        due.is("put", x.put(0, 1, -7), 1);
        stateIs("put", x, sign * GREAT, -7, sign * GREAT);
        x.loop(3);
        due.is("another loop", x.at(1, 0), 0);
        x.clear();
        x.loop(3);
        stateIs("cleared", x, 0, 0, 0);
    }

    /** A ring is looked for from small states, wherever the state is. */
    private static void ringsThere(int sign) {
        FallingTerms x = byTheLastWay(sign);
        x.constant(0, 2, 2, sign);
        x.row(0, 2, sign, 0, 0, 7);
        due.is("0 stands still by way 0", x.ring(0, 0), 1);
        stateIs("0 stands still by way 0", x, 0, 0, 0);
        x = byTheLastWay(sign);
        x.guard(0, sign, 0, 0, 7);
        due.is("no ring from 7 on", x.ring(0, 6), 0);
        staysGreat("no ring from 7 on", x, sign);
    }

    /** x and z, as great as each other, become 2^12 and then 5^12 times as great, and 1 again; y counts. */
    private static FallingTerms upAndBack(int sign, int twice) {
        FallingTerms x = new FallingTerms();
        x.loop(3);
        x.way(0);
        x.way(0);
        x.way(0);
        x.row(0, 0, 0, -1, 0, 1 - twice);
        x.row(0, 1, 0, -1, 0, -11 - twice);
        for (int name = 0; name < 3; name += 2) {
            x.factor(0, 0, name, name, 2);
            x.factor(0, 1, name, name, 3);
            x.factor(0, 1, name, 2 - name, 2);
            x.factor(0, 2, name, name, 0);
            x.constant(0, 2, name, sign);
        }
        x.constant(0, 0, 1, 1);
        x.constant(0, 1, 1, 1);
        x.factor(0, 2, 1, 1, 0);
        return x;
    }

    private static void ringThroughTheGreatest(int sign) {
        FallingTerms x = upAndBack(sign, 12);
        due.is("a ring through 10^12", x.ring(0, 1), 25);
        stateIs("a ring through 10^12", x, sign, 0, sign);
        due.is("up", x.walk(0, 24), 24);
        stateIs("up", x, sign * GREAT, 24, sign * GREAT);
        due.is("and back", x.step(0), 2);
        stateIs("and back", x, sign, 0, sign);
        due.is("round and round", x.walk(0, 1000), 1000);
        x = upAndBack(sign, 13);
        x.put(0, 1, 5);
        due.is("no ring through twice that", x.ring(0, 1), 0);
        stateIs("no ring through twice that", x, 0, 5, 0);
        x.put(0, 0, sign);
        x.put(0, 1, 0);
        x.put(0, 2, sign);
        due.is("lost before twice that", x.walk(0, 1000), 24);
        stateIs("lost before twice that", x, sign * GREAT / 5 * 2, 24, sign * GREAT / 5 * 2);
        due.is("lost", x.step(0), LOST);
    }

    private static void walkTillLost() {
        FallingTerms x = new FallingTerms();
        x.loop(2);
        x.way(0);
        x.way(0);
        x.factor(0, 0, 0, 0, 0);
        x.factor(0, 0, 0, 1, 2);
        x.factor(0, 0, 1, 1, 2);
        x.put(0, 1, 1000000);
        // 2^19 times 10^6 is below 10^12, and 2^20 times 10^6 above.
        due.is("walk till lost", x.walk(0, 100), 19);
        stateIs("walk till lost", x, 524288000000L, 524288000000L);
        due.is("step", x.step(0), LOST);
        due.is("go", x.go(0, 0), LOST);
        due.is("walk", x.walk(0, 3), 0);
        stateIs("lost", x, 524288000000L, 524288000000L);
        due.is("another way is gone", x.go(0, 1), 1);
        x.put(0, 1, 1000000);
        due.is("a walk of just so many", x.walk(0, 19), 19);
        x.put(0, 1, 1000000);
        due.is("a walk of one more", x.walk(0, 20), 19);
    }

    /** "or till it can't (none OPEN, LOST): by how many" */
    private static void walkTillNoneIsOpen() {
        for (int n = 0; n <= 12; n++) {
            FallingTerms x = new FallingTerms();
            x.loop(1);
            x.way(0);
            x.guard(0, 1, 0, 0, 1);
            x.constant(0, 0, 0, -1);
            x.put(0, 0, 10);
            due.is("walk " + n + " from 10", x.walk(0, n), Math.min(10, n));
            due.is("at behind it", x.at(0, 0), Math.max(0, 10 - n));
        }
    }

    private static void ringIsLost() {
        FallingTerms x = new FallingTerms();
        x.loop(1);
        x.way(0);
        x.way(0);
        x.factor(0, 0, 0, 0, 3);
        x.guard(0, 1, 0, 0, 1);
        due.is("the first open way is lost", x.ring(0, 6), 0);
        due.is("the state stays", x.at(0, 0), 0);
    }
}
