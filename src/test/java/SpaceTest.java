/** Promises 10 to 12: spaces of fractions, and the terms on them. */
public final class SpaceTest {
    private static final Due due = new Due();

    public static void main(String[] args) {
        empty();
        fractionsCount();
        triangle();
        cube();
        pyramid();
        greatNumbers();
        holds();
        term();
        termOnCorners();
        boundedFromANumberOn();
        staysIfNowhereGreater();
        fallsByOneOrMore();
        due.finish();
    }

    private static FallingTerms oneWay(int names) {
        FallingTerms x = new FallingTerms();
        x.loop(names);
        x.way(0);
        return x;
    }

    private static void empty() {
        FallingTerms x = oneWay(1);
        x.way(0);
        due.is("no rows", x.empty(0, 0), 0);
        x.guard(0, 1, 0, 0, 3);
        due.is("x >= 3", x.empty(0, 0), 0);
        x.row(0, 0, -1, 0, 0, -3);
        due.is("x = 3", x.empty(0, 0), 0);
        x.row(0, 1, -1, 0, 0, -2);
        due.is("3 <= x <= 2", x.empty(0, 1), 1);
        due.is("x = 3 on the other way", x.empty(0, 0), 0);
        x.guard(0, -9, 0, 0, -26);
        due.is("3 <= x <= 26/9", x.empty(0, 0), 1);
    }

    private static void fractionsCount() {
        FallingTerms x = oneWay(2);
        // 3x + 3y = 1 has fractions, and no whole numbers.
        x.guard(0, 3, 3, 0, 1);
        x.guard(0, -3, -3, 0, -1);
        due.is("3x + 3y = 1", x.empty(0, 0), 0);
        due.is("9x + 9y >= 3", x.holds(0, 0, 9, 9, 0, 3), 1);
        due.is("9x + 9y >= 4", x.holds(0, 0, 9, 9, 0, 4), 0);
        due.is("x + y >= 0", x.holds(0, 0, 1, 1, 0, 0), 1);
        due.is("x + y >= 1", x.holds(0, 0, 1, 1, 0, 1), 0);
        due.is("term x + y", x.term(0, 0, 1, 1, 0), 3);
        due.is("term x", x.term(0, 0, 1, 0, 0), 2);
        // x goes up by 1 and y down by 1: the sum stays, x rises, y falls without a bound.
        x.constant(0, 0, 0, 1);
        x.constant(0, 0, 1, -1);
        due.is("term x + y", x.term(0, 0, 1, 1, 0), 3);
        due.is("term x", x.term(0, 0, 1, 0, 0), 0);
        due.is("term y", x.term(0, 0, 0, 1, 0), 6);
    }

    private static void triangle() {
        FallingTerms x = oneWay(2);
        x.guard(0, 1, 0, 0, 0);
        x.guard(0, 0, 1, 0, 0);
        x.row(0, 0, -2, -3, 0, -6);
        due.is("corner (3, 0): -x >= -3", x.holds(0, 0, -1, 0, 0, -3), 1);
        due.is("corner (3, 0): -2x >= -5", x.holds(0, 0, -2, 0, 0, -5), 0);
        due.is("corner (0, 2): -y >= -2", x.holds(0, 0, 0, -1, 0, -2), 1);
        due.is("corner (0, 2): -2y >= -3", x.holds(0, 0, 0, -2, 0, -3), 0);
        due.is("corners: -x - y >= -3", x.holds(0, 0, -1, -1, 0, -3), 1);
        due.is("corners: -9x - 9y >= -26", x.holds(0, 0, -9, -9, 0, -26), 0);
        due.is("corners: y - x >= -3", x.holds(0, 0, -1, 1, 0, -3), 1);
        for (int t = -2; t <= 2; t++) {
            for (int u = -2; u <= 2; u++) {
                if (t != 0 || u != 0) {
                    due.is("term in a triangle", x.term(0, 0, t, u, 0), 3);
                }
            }
        }
        x.guard(0, 1, 1, 0, 3);
        due.is("only (3, 0)", x.empty(0, 0), 0);
        due.is("only (3, 0)", x.holds(0, 0, 0, -1, 0, 0), 1);
        x.guard(0, 0, 9, 0, 1);
        due.is("not even that", x.empty(0, 0), 1);
    }

    private static void cube() {
        FallingTerms x = oneWay(3);
        x.guard(0, 1, 0, 0, 0);
        x.guard(0, -1, 0, 0, -2);
        x.guard(0, 0, 1, 0, 0);
        x.guard(0, 0, -1, 0, -2);
        due.is("a bar: z", x.term(0, 0, 0, 0, 1), 2);
        due.is("a bar: x - 2y", x.term(0, 0, 1, -2, 0), 3);
        x.row(0, 0, 0, 0, 1, 0);
        x.row(0, 0, 0, 0, -1, -2);
        for (int corner = 0; corner < 8; corner++) {
            int a = corner % 2 == 0 ? 1 : -1;
            int b = corner / 2 % 2 == 0 ? 1 : -1;
            int c = corner / 4 == 0 ? 1 : -1;
            int least = (a < 0 ? -2 : 0) + (b < 0 ? -2 : 0) + (c < 0 ? -2 : 0);
            due.is("a cube's corner", x.holds(0, 0, a, b, c, least), 1);
            due.is("a cube's corner", x.holds(0, 0, a, b, c, least + 1), 0);
            due.is("a cube's corner, bounded", x.term(0, 0, a, b, c), 3);
        }
    }

    private static void pyramid() {
        FallingTerms x = oneWay(3);
        // Its top, 0, lies in four rows at once; it opens upwards.
        x.guard(0, 1, 0, 1, 0);
        x.guard(0, -1, 0, 1, 0);
        x.guard(0, 0, 1, 1, 0);
        x.guard(0, 0, -1, 1, 0);
        due.is("x + z", x.term(0, 0, 1, 0, 1), 3);
        due.is("x + y + z", x.term(0, 0, 1, 1, 1), 2);
        due.is("x + y + 2z", x.term(0, 0, 1, 1, 2), 3);
        x.row(0, 0, 0, 0, -1, -2);
        due.is("x + y + z >= -2", x.holds(0, 0, 1, 1, 1, -2), 1);
        due.is("x + y + z >= -1", x.holds(0, 0, 1, 1, 1, -1), 0);
        due.is("x - y >= -4", x.holds(0, 0, 1, -1, 0, -4), 1);
        x.row(0, 0, 1, 1, 0, 0);
        due.is("half: x + y + z >= 0", x.holds(0, 0, 1, 1, 1, 0), 1);
        due.is("half: -x - y >= -4", x.holds(0, 0, -1, -1, 0, -4), 1);
        due.is("half: -x - y >= -3", x.holds(0, 0, -1, -1, 0, -3), 0);
        due.is("half: x - y >= -4", x.holds(0, 0, 1, -1, 0, -4), 1);
        due.is("half: x - y >= -3", x.holds(0, 0, 1, -1, 0, -3), 0);
        due.is("half: 3x + 2y + z >= 0", x.holds(0, 0, 3, 2, 1, 0), 1);
        due.is("half: 4x + 2y + z >= 0", x.holds(0, 0, 4, 2, 1, 0), 0);
    }

    private static void greatNumbers() {
        FallingTerms x = oneWay(3);
        x.guard(0, 9, 8, 7, 1000);
        x.guard(0, -9, 9, 8, 999);
        x.guard(0, 7, -9, 9, -1000);
        x.guard(0, -1, -1, -9, -1000);
        due.is("a simplex", x.empty(0, 0), 0);
        // The corner of the first three rows.
        x.row(0, 0, -9, -8, -7, -1000);
        x.row(0, 0, 9, -9, -8, -999);
        due.is("an edge of it", x.empty(0, 0), 0);
        due.is("z >= 40 somewhere not", x.holds(0, 0, 0, 0, 1, 40), 0);
        for (int t = -2; t <= 2; t++) {
            due.is("an edge is bounded", x.term(0, 0, t, 1, -t), 3);
        }
    }

    private static void holds() {
        FallingTerms x = oneWay(3);
        due.is("all space", x.holds(0, 0, 1, 0, 0, -1000), 0);
        due.is("all space", x.holds(0, 0, 0, 0, -1, -1000), 0);
        x.guard(0, 1, 1, 1, 3);
        due.is("the row itself", x.holds(0, 0, 1, 1, 1, 3), 1);
        due.is("twice", x.holds(0, 0, 2, 2, 2, 6), 1);
        due.is("twice and more", x.holds(0, 0, 2, 2, 2, 7), 0);
        due.is("another direction", x.holds(0, 0, 2, 1, 1, 3), 0);
        x.guard(0, 1, -1, 0, 0);
        x.guard(0, 0, 1, -1, 0);
        due.is("x >= y >= z: x >= 1", x.holds(0, 0, 1, 0, 0, 1), 1);
        due.is("x >= y >= z: x >= z", x.holds(0, 0, 1, 0, -1, 0), 1);
        due.is("x >= y >= z: x >= z + 1", x.holds(0, 0, 1, 0, -1, 1), 0);
        due.is("x >= y >= z: y >= 0", x.holds(0, 0, 0, 1, 0, 0), 0);
        due.is("x >= y >= z: 2x + y >= 3", x.holds(0, 0, 2, 1, 0, 3), 1);
        due.is("x >= y >= z: 2x + y >= 4", x.holds(0, 0, 2, 1, 0, 4), 0);
        due.is("not yet of a row beyond", x.holds(0, 0, 0, 0, 1, 1), 0);
        x.row(0, 0, 0, 0, 1, 1);
        due.is("z >= 1: y >= 1", x.holds(0, 0, 0, 1, 0, 1), 1);
        x.row(0, 0, -1, 0, 0, 0);
        due.is("nothing: all", x.holds(0, 0, 1, 2, 3, 1000), 1);
        due.is("nothing: all", x.holds(0, 0, -1, -2, -3, 1000), 1);
        due.is("nothing: all three", x.term(0, 0, 1, -2, 1), 7);
    }

    private static void term() {
        FallingTerms x = oneWay(2);
        x.guard(0, 1, 0, 0, 1);
        // x becomes x - y, with no bound for y.
        x.factor(0, 0, 0, 1, -1);
        due.is("x", x.term(0, 0, 1, 0, 0), 1);
        x.row(0, 0, 0, 1, 0, 0);
        due.is("x, y >= 0", x.term(0, 0, 1, 0, 0), 3);
        due.is("y, y >= 0", x.term(0, 0, 0, 1, 0), 3);
        due.is("-x, y >= 0", x.term(0, 0, -1, 0, 0), 0);
        x.row(0, 0, 0, 2, 0, 1);
        due.is("x, 2y >= 1", x.term(0, 0, 1, 0, 0), 3);
        due.is("2x, 2y >= 1", x.term(0, 0, 2, 0, 0), 7);
        due.is("2x - y, 2y >= 1", x.term(0, 0, 2, -1, 0), 6);
        due.is("-y, 2y >= 1", x.term(0, 0, 0, -1, 0), 2);
    }

    private static void termOnCorners() {
        FallingTerms x = oneWay(1);
        // x becomes -x + 3 from 2 on: at 2 it is less by 1, further on by more.
        x.factor(0, 0, 0, 0, -1);
        x.constant(0, 0, 0, 3);
        x.guard(0, 1, 0, 0, 2);
        due.is("x from 2", x.term(0, 0, 1, 0, 0), 7);
        due.is("-x from 2", x.term(0, 0, -1, 0, 0), 0);
        x = oneWay(1);
        x.factor(0, 0, 0, 0, -1);
        x.constant(0, 0, 0, 3);
        x.guard(0, 2, 0, 0, 3);
        due.is("x from 3/2", x.term(0, 0, 1, 0, 0), 3);
        x = oneWay(1);
        x.factor(0, 0, 0, 0, -1);
        x.constant(0, 0, 0, 3);
        x.guard(0, 3, 0, 0, 4);
        due.is("x from 4/3", x.term(0, 0, 1, 0, 0), 1);
    }

    /** "BOUNDED, if there is a number below which it is nowhere in THE SPACE" */
    private static void boundedFromANumberOn() {
        for (int least : new int[] {-1000, 0, 1000}) {
            FallingTerms x = oneWay(1);
            x.guard(0, 9, 0, 0, least);
            due.is("from below: x", x.term(0, 0, 1, 0, 0), 3);
            due.is("from below: -x", x.term(0, 0, -1, 0, 0), 2);
            x.row(0, 0, -9, 0, 0, -1000);
            due.is("from both sides: x", x.term(0, 0, 2, 0, 0), 3);
            due.is("from both sides: -x", x.term(0, 0, -2, 0, 0), 3);
        }
        // Between the lines 9x = 8y and 8x = 9y, from 0 on: x - y goes below all numbers, and y - x too.
        FallingTerms x = oneWay(2);
        x.guard(0, 9, -8, 0, 0);
        x.guard(0, -8, 9, 0, 0);
        due.is("a cone: x", x.term(0, 0, 1, 0, 0), 3);
        due.is("a cone: y", x.term(0, 0, 0, 1, 0), 3);
        due.is("a cone: x - y", x.term(0, 0, 1, -1, 0), 2);
        due.is("a cone: y - x", x.term(0, 0, -1, 1, 0), 2);
        due.is("a cone: 2x - y", x.term(0, 0, 2, -1, 0), 3);
        due.is("a cone: 2y - x", x.term(0, 0, -1, 2, 0), 3);
        due.is("a cone: -x - y", x.term(0, 0, -1, -1, 0), 2);
        // Along its edge a term that is the same there stays bounded; one that is less there does not.
        x = oneWay(2);
        x.guard(0, 2, -1, 0, 0);
        x.guard(0, -1, 2, 0, 0);
        due.is("the cone of 2x - y and 2y - x: 2x - y", x.term(0, 0, 2, -1, 0), 3);
        due.is("the cone of 2x - y and 2y - x: x - y", x.term(0, 0, 1, -1, 0), 2);
        // A row that nothing bounds from the other side.
        x = oneWay(3);
        x.guard(0, 1, -1, 0, 0);
        due.is("x - y", x.term(0, 0, 1, -1, 0), 3);
        due.is("2x - 2y", x.term(0, 0, 2, -2, 0), 3);
        due.is("y - x", x.term(0, 0, -1, 1, 0), 2);
        due.is("2x - y", x.term(0, 0, 2, -1, 0), 2);
        due.is("x - y + z", x.term(0, 0, 1, -1, 1), 2);
    }

    /** A way on which x becomes x - y, with 9y from least on. */
    private static FallingTerms lessByY(int least) {
        FallingTerms x = oneWay(2);
        x.factor(0, 0, 0, 1, -1);
        x.guard(0, 0, 9, 0, least);
        return x;
    }

    /** "it STAYS, if nowhere in THE SPACE the CHANGE makes it greater" */
    private static void staysIfNowhereGreater() {
        due.is("y from 0: x", lessByY(0).term(0, 0, 1, 0, 0), 2);
        due.is("y from -1/9: x", lessByY(-1).term(0, 0, 1, 0, 0), 0);
        due.is("y from 1/9: x", lessByY(1).term(0, 0, 1, 0, 0), 2);
        due.is("y from 0: -x", lessByY(0).term(0, 0, -1, 0, 0), 0);
        FallingTerms x = lessByY(0);
        x.guard(0, 0, -1, 0, 0);
        due.is("y just 0: x", x.term(0, 0, 1, 0, 0), 2);
        due.is("y just 0: -x", x.term(0, 0, -1, 0, 0), 2);
        x = lessByY(-9);
        x.constant(0, 0, 0, -1);
        due.is("y from -1, and 1 less: x", x.term(0, 0, 1, 0, 0), 2);
        x.constant(0, 0, 0, 0);
        due.is("y from -1: x", x.term(0, 0, 1, 0, 0), 0);
    }

    /** "it FALLS, if everywhere in THE SPACE the CHANGE makes it less by 1 or more" */
    private static void fallsByOneOrMore() {
        due.is("y from 1: x", lessByY(9).term(0, 0, 1, 0, 0), 6);
        due.is("y from 8/9: x", lessByY(8).term(0, 0, 1, 0, 0), 2);
        due.is("y from 8/9: 2x", lessByY(8).term(0, 0, 2, 0, 0), 6);
        due.is("y from 5/9: 2x", lessByY(5).term(0, 0, 2, 0, 0), 6);
        due.is("y from 4/9: 2x", lessByY(4).term(0, 0, 2, 0, 0), 2);
        due.is("y from 1000/9: x", lessByY(1000).term(0, 0, 1, 0, 0), 6);
        FallingTerms x = lessByY(9);
        x.guard(0, 0, -1, 0, -1);
        due.is("y just 1: x", x.term(0, 0, 1, 0, 0), 6);
        due.is("y just 1: -x", x.term(0, 0, -1, 0, 0), 0);
        x.guard(0, 1, 0, 0, -1000);
        due.is("y just 1, x from -1000: x", x.term(0, 0, 1, 0, 0), 7);
        for (int constant = -2; constant <= 1; constant++) {
            x = oneWay(1);
            x.constant(0, 0, 0, constant);
            due.is("x and " + constant + ": x", x.term(0, 0, 1, 0, 0), constant <= -1 ? 6 : constant == 0 ? 2 : 0);
            due.is("x and " + constant + ": -x", x.term(0, 0, -1, 0, 0), constant >= 1 ? 6 : constant == 0 ? 2 : 0);
        }
    }
}
