/** Promises 10 to 12: spaces of fractions, and the terms on them. */
public final class SpaceTest {
    private static final int UNKNOWN = -2, OUTSIDE = -3;
    private static final int MIN = Integer.MIN_VALUE, MAX = Integer.MAX_VALUE;
    private static final Due due = new Due();

    public static void main(String[] args) {
        wrongInputs();
        empty();
        fractionsCount();
        triangle();
        cube();
        pyramid();
        greatNumbers();
        holds();
        term();
        termOnCorners();
        due.finish();
    }

    private static FallingTerms oneWay(int names) {
        FallingTerms x = new FallingTerms();
        x.loop(names);
        x.way(0);
        return x;
    }

    private static void wrongInputs() {
        FallingTerms x = new FallingTerms();
        due.is("empty of no loop", x.empty(0, 0), UNKNOWN);
        x.loop(2);
        due.is("empty of no way", x.empty(0, 0), UNKNOWN);
        x.way(0);
        due.is("empty(0, 1)", x.empty(0, 1), UNKNOWN);
        due.is("empty(0, -1)", x.empty(0, -1), UNKNOWN);
        due.is("empty(-1, 0)", x.empty(-1, 0), UNKNOWN);
        due.is("holds, way 1", x.holds(0, 1, 0, 0, 0, 0), UNKNOWN);
        due.is("holds, loop 1", x.holds(1, 0, 1, 0, 0, 0), UNKNOWN);
        due.is("holds 0 0 0", x.holds(0, 0, 0, 0, 0, 0), OUTSIDE);
        due.is("holds of a third name", x.holds(0, 0, 1, 1, 1, 0), OUTSIDE);
        due.is("holds 10", x.holds(0, 0, 0, 10, 0, 0), OUTSIDE);
        due.is("holds -10", x.holds(0, 0, -10, 0, 0, 0), OUTSIDE);
        due.is("holds MIN", x.holds(0, 0, MIN, 0, 0, 0), OUTSIDE);
        due.is("holds d 1001", x.holds(0, 0, 1, 0, 0, 1001), OUTSIDE);
        due.is("holds d -1001", x.holds(0, 0, 1, 0, 0, -1001), OUTSIDE);
        due.is("term, way 1", x.term(0, 1, 0, 0, 0), UNKNOWN);
        due.is("term, loop -1", x.term(-1, 0, 1, 0, 0), UNKNOWN);
        due.is("term 0 0 0", x.term(0, 0, 0, 0, 0), OUTSIDE);
        due.is("term of a third name", x.term(0, 0, 1, 1, -1), OUTSIDE);
        for (int v : new int[] {MIN, -3, 3, MAX}) {
            due.is("term " + v, x.term(0, 0, v, 0, 0), OUTSIDE);
            due.is("term 1 " + v, x.term(0, 0, 1, v, 0), OUTSIDE);
            due.is("term 1 0 " + v, x.term(0, 0, 1, 0, v), OUTSIDE);
        }
    }

    private static void empty() {
        FallingTerms x = oneWay(1);
        x.way(0);
        due.is("no rows", x.empty(0, 0), 0);
        x.guard(0, 1, 0, 0, 3);
        due.is("x >= 3", x.empty(0, 0), 0);
        x.row(0, 0, -1, 0, 0, -3);
        due.is("x = 3", x.empty(0, 0), 0);
        x.row(0, 1, -1, 0, 0, -2);
        due.is("3 <= x <= 2", x.empty(0, 1), 1);
        due.is("x = 3 on the other way", x.empty(0, 0), 0);
        x.guard(0, -9, 0, 0, -26);
        due.is("3 <= x <= 26/9", x.empty(0, 0), 1);
    }

    private static void fractionsCount() {
        FallingTerms x = oneWay(2);
        // 3x + 3y = 1 has fractions, and no whole numbers.
        x.guard(0, 3, 3, 0, 1);
        x.guard(0, -3, -3, 0, -1);
        due.is("3x + 3y = 1", x.empty(0, 0), 0);
        due.is("9x + 9y >= 3", x.holds(0, 0, 9, 9, 0, 3), 1);
        due.is("9x + 9y >= 4", x.holds(0, 0, 9, 9, 0, 4), 0);
        due.is("x + y >= 0", x.holds(0, 0, 1, 1, 0, 0), 1);
        due.is("x + y >= 1", x.holds(0, 0, 1, 1, 0, 1), 0);
        due.is("term x + y", x.term(0, 0, 1, 1, 0), 3);
        due.is("term x", x.term(0, 0, 1, 0, 0), 2);
        // x goes up by 1 and y down by 1: the sum stays, x rises, y falls without a bound.
        x.constant(0, 0, 0, 1);
        x.constant(0, 0, 1, -1);
        due.is("term x + y", x.term(0, 0, 1, 1, 0), 3);
        due.is("term x", x.term(0, 0, 1, 0, 0), 0);
        due.is("term y", x.term(0, 0, 0, 1, 0), 6);
    }

    private static void triangle() {
        FallingTerms x = oneWay(2);
        x.guard(0, 1, 0, 0, 0);
        x.guard(0, 0, 1, 0, 0);
        x.row(0, 0, -2, -3, 0, -6);
        due.is("corner (3, 0): -x >= -3", x.holds(0, 0, -1, 0, 0, -3), 1);
        due.is("corner (3, 0): -2x >= -5", x.holds(0, 0, -2, 0, 0, -5), 0);
        due.is("corner (0, 2): -y >= -2", x.holds(0, 0, 0, -1, 0, -2), 1);
        due.is("corner (0, 2): -2y >= -3", x.holds(0, 0, 0, -2, 0, -3), 0);
        due.is("corners: -x - y >= -3", x.holds(0, 0, -1, -1, 0, -3), 1);
        due.is("corners: -9x - 9y >= -26", x.holds(0, 0, -9, -9, 0, -26), 0);
        due.is("corners: y - x >= -3", x.holds(0, 0, -1, 1, 0, -3), 1);
        for (int t = -2; t <= 2; t++) {
            for (int u = -2; u <= 2; u++) {
                if (t != 0 || u != 0) {
                    due.is("term in a triangle", x.term(0, 0, t, u, 0), 3);
                }
            }
        }
        x.guard(0, 1, 1, 0, 3);
        due.is("only (3, 0)", x.empty(0, 0), 0);
        due.is("only (3, 0)", x.holds(0, 0, 0, -1, 0, 0), 1);
        x.guard(0, 0, 9, 0, 1);
        due.is("not even that", x.empty(0, 0), 1);
    }

    private static void cube() {
        FallingTerms x = oneWay(3);
        x.guard(0, 1, 0, 0, 0);
        x.guard(0, -1, 0, 0, -2);
        x.guard(0, 0, 1, 0, 0);
        x.guard(0, 0, -1, 0, -2);
        due.is("a bar: z", x.term(0, 0, 0, 0, 1), 2);
        due.is("a bar: x - 2y", x.term(0, 0, 1, -2, 0), 3);
        x.row(0, 0, 0, 0, 1, 0);
        x.row(0, 0, 0, 0, -1, -2);
        for (int corner = 0; corner < 8; corner++) {
            int a = corner % 2 == 0 ? 1 : -1;
            int b = corner / 2 % 2 == 0 ? 1 : -1;
            int c = corner / 4 == 0 ? 1 : -1;
            int least = (a < 0 ? -2 : 0) + (b < 0 ? -2 : 0) + (c < 0 ? -2 : 0);
            due.is("a cube's corner", x.holds(0, 0, a, b, c, least), 1);
            due.is("a cube's corner", x.holds(0, 0, a, b, c, least + 1), 0);
            due.is("a cube's corner, bounded", x.term(0, 0, a, b, c), 3);
        }
    }

    private static void pyramid() {
        FallingTerms x = oneWay(3);
        // Its top, 0, lies in four rows at once; it opens upwards.
        x.guard(0, 1, 0, 1, 0);
        x.guard(0, -1, 0, 1, 0);
        x.guard(0, 0, 1, 1, 0);
        x.guard(0, 0, -1, 1, 0);
        due.is("x + z", x.term(0, 0, 1, 0, 1), 3);
        due.is("x + y + z", x.term(0, 0, 1, 1, 1), 2);
        due.is("x + y + 2z", x.term(0, 0, 1, 1, 2), 3);
        x.row(0, 0, 0, 0, -1, -2);
        due.is("x + y + z >= -2", x.holds(0, 0, 1, 1, 1, -2), 1);
        due.is("x + y + z >= -1", x.holds(0, 0, 1, 1, 1, -1), 0);
        due.is("x - y >= -4", x.holds(0, 0, 1, -1, 0, -4), 1);
        x.row(0, 0, 1, 1, 0, 0);
        due.is("half: x + y + z >= 0", x.holds(0, 0, 1, 1, 1, 0), 1);
        due.is("half: -x - y >= -4", x.holds(0, 0, -1, -1, 0, -4), 1);
        due.is("half: -x - y >= -3", x.holds(0, 0, -1, -1, 0, -3), 0);
        due.is("half: x - y >= -4", x.holds(0, 0, 1, -1, 0, -4), 1);
        due.is("half: x - y >= -3", x.holds(0, 0, 1, -1, 0, -3), 0);
        due.is("half: 3x + 2y + z >= 0", x.holds(0, 0, 3, 2, 1, 0), 1);
        due.is("half: 4x + 2y + z >= 0", x.holds(0, 0, 4, 2, 1, 0), 0);
    }

    private static void greatNumbers() {
        FallingTerms x = oneWay(3);
        x.guard(0, 9, 8, 7, 1000);
        x.guard(0, -9, 9, 8, 999);
        x.guard(0, 7, -9, 9, -1000);
        x.guard(0, -1, -1, -9, -1000);
        due.is("a simplex", x.empty(0, 0), 0);
        // The corner of the first three rows.
        x.row(0, 0, -9, -8, -7, -1000);
        x.row(0, 0, 9, -9, -8, -999);
        due.is("an edge of it", x.empty(0, 0), 0);
        due.is("z >= 40 somewhere not", x.holds(0, 0, 0, 0, 1, 40), 0);
        for (int t = -2; t <= 2; t++) {
            due.is("an edge is bounded", x.term(0, 0, t, 1, -t), 3);
        }
    }

    private static void holds() {
        FallingTerms x = oneWay(3);
        due.is("all space", x.holds(0, 0, 1, 0, 0, -1000), 0);
        due.is("all space", x.holds(0, 0, 0, 0, -1, -1000), 0);
        x.guard(0, 1, 1, 1, 3);
        due.is("the row itself", x.holds(0, 0, 1, 1, 1, 3), 1);
        due.is("twice", x.holds(0, 0, 2, 2, 2, 6), 1);
        due.is("twice and more", x.holds(0, 0, 2, 2, 2, 7), 0);
        due.is("another direction", x.holds(0, 0, 2, 1, 1, 3), 0);
        x.guard(0, 1, -1, 0, 0);
        x.guard(0, 0, 1, -1, 0);
        due.is("x >= y >= z: x >= 1", x.holds(0, 0, 1, 0, 0, 1), 1);
        due.is("x >= y >= z: x >= z", x.holds(0, 0, 1, 0, -1, 0), 1);
        due.is("x >= y >= z: x >= z + 1", x.holds(0, 0, 1, 0, -1, 1), 0);
        due.is("x >= y >= z: y >= 0", x.holds(0, 0, 0, 1, 0, 0), 0);
        due.is("x >= y >= z: 2x + y >= 3", x.holds(0, 0, 2, 1, 0, 3), 1);
        due.is("x >= y >= z: 2x + y >= 4", x.holds(0, 0, 2, 1, 0, 4), 0);
        due.is("not yet of a row beyond", x.holds(0, 0, 0, 0, 1, 1), 0);
        x.row(0, 0, 0, 0, 1, 1);
        due.is("z >= 1: y >= 1", x.holds(0, 0, 0, 1, 0, 1), 1);
        x.row(0, 0, -1, 0, 0, 0);
        due.is("nothing: all", x.holds(0, 0, 1, 2, 3, 1000), 1);
        due.is("nothing: all", x.holds(0, 0, -1, -2, -3, 1000), 1);
        due.is("nothing: all three", x.term(0, 0, 1, -2, 1), 7);
    }

    private static void term() {
        FallingTerms x = oneWay(2);
        x.guard(0, 1, 0, 0, 1);
        // x becomes x - y, with no bound for y.
        x.factor(0, 0, 0, 1, -1);
        due.is("x", x.term(0, 0, 1, 0, 0), 1);
        x.row(0, 0, 0, 1, 0, 0);
        due.is("x, y >= 0", x.term(0, 0, 1, 0, 0), 3);
        due.is("y, y >= 0", x.term(0, 0, 0, 1, 0), 3);
        due.is("-x, y >= 0", x.term(0, 0, -1, 0, 0), 0);
        x.row(0, 0, 0, 2, 0, 1);
        due.is("x, 2y >= 1", x.term(0, 0, 1, 0, 0), 3);
        due.is("2x, 2y >= 1", x.term(0, 0, 2, 0, 0), 7);
        due.is("2x - y, 2y >= 1", x.term(0, 0, 2, -1, 0), 6);
        due.is("-y, 2y >= 1", x.term(0, 0, 0, -1, 0), 2);
    }

    private static void termOnCorners() {
        FallingTerms x = oneWay(1);
        // x becomes -x + 3 from 2 on: at 2 it is less by 1, further on by more.
        x.factor(0, 0, 0, 0, -1);
        x.constant(0, 0, 0, 3);
        x.guard(0, 1, 0, 0, 2);
        due.is("x from 2", x.term(0, 0, 1, 0, 0), 7);
        due.is("-x from 2", x.term(0, 0, -1, 0, 0), 0);
        x = oneWay(1);
        x.factor(0, 0, 0, 0, -1);
        x.constant(0, 0, 0, 3);
        x.guard(0, 2, 0, 0, 3);
        due.is("x from 3/2", x.term(0, 0, 1, 0, 0), 3);
        x = oneWay(1);
        x.factor(0, 0, 0, 0, -1);
        x.constant(0, 0, 0, 3);
        x.guard(0, 3, 0, 0, 4);
        due.is("x from 4/3", x.term(0, 0, 1, 0, 0), 1);
    }
}
