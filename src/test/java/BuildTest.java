/** Promises 1 to 9 and 25: loops, their rows, ways and changes, and what is told of them. */
public final class BuildTest {
    private static final Due due = new Due();

    public static void main(String[] args) {
        loop();
        clear();
        guard();
        way();
        row();
        factor();
        allAtOnce();
        constant();
        told();
        due.finish();
    }

    private static void loop() {
        FallingTerms x = new FallingTerms();
        due.is("loops() of a new object", x.loops(), 0);
        for (int i = 0; i < 8; i++) {
            due.is("loop " + i, x.loop(1 + i % 3), i);
            due.is("loops()", x.loops(), i + 1);
            due.is("names", x.told(i, 0), 1 + i % 3);
        }
    }

    private static void clear() {
        FallingTerms x = new FallingTerms();
        x.loop(2);
        x.loop(2);
        x.guard(0, 1, 0, 0, 1);
        x.way(0);
        x.row(0, 0, 0, 1, 0, 5);
        x.factor(0, 0, 0, 0, 3);
        x.constant(0, 0, 1, 7);
        x.put(0, 1, 9);
        x.prove(0);
        due.is("left() before clear()", x.left(), 1);
        due.is("clear()", x.clear(), 2);
        due.is("loops()", x.loops(), 0);
        due.is("left()", x.left(), 0);
        due.is("loop behind clear()", x.loop(3), 0);
        due.is("guard's rows", x.told(0, 2), 0);
        due.is("ways", x.told(0, 1), 0);
        due.is("state", x.at(0, 1), 0);
        due.is("way", x.way(0), 0);
        due.is("row", x.row(0, 0, 0, 0, 1, 0), 1);
        due.is("factor as at first", x.factor(0, 0, 0, 0, 1), 4);
        due.is("constant as at first", x.constant(0, 0, 1, 0), 99);
    }

    private static void guard() {
        FallingTerms x = new FallingTerms();
        x.loop(3);
        x.loop(3);
        x.way(0);
        due.is("guard", x.guard(0, 1, 2, -3, 4), 1);
        due.is("guard of another loop", x.guard(1, 1, 0, 0, 0), 1);
        due.is("guard", x.guard(0, 0, 0, -1, -9), 2);
        due.is("open at 0, 0, 0", x.open(0), 0);
        x.put(0, 0, 2);
        x.put(0, 1, 1);
        due.is("open at 2, 1, 0", x.open(0), 1);
        x.put(0, 2, 1);
        due.is("open at 2, 1, 1", x.open(0), 0);
        x.put(0, 0, 1000);
        x.put(0, 2, 9);
        due.is("open at 1000, 1, 9", x.open(0), 1);
        x.put(0, 2, 10);
        due.is("open at 1000, 1, 10", x.open(0), 0);
    }

    private static void way() {
        FallingTerms x = new FallingTerms();
        x.loop(1);
        x.loop(2);
        due.is("way(1)", x.way(1), 0);
        due.is("way(1)", x.way(1), 1);
        due.is("ways of 0", x.told(0, 1), 0);
        x.put(1, 0, 5);
        x.put(1, 1, -7);
        due.is("a new way is open", x.step(1), 0);
        due.is("and changes nothing", x.at(1, 0), 5);
        due.is("and changes nothing", x.at(1, 1), -7);
    }

    private static void row() {
        FallingTerms x = new FallingTerms();
        x.loop(2);
        x.way(0);
        x.way(0);
        due.is("row", x.row(0, 1, 1, 1, 0, 3), 1);
        due.is("row", x.row(0, 1, 1, -1, 0, 0), 2);
        due.is("row of another way", x.row(0, 0, 0, 1, 0, 0), 1);
        due.is("guard's rows", x.told(0, 2), 0);
        int[][] cases = {{2, 1, 3}, {1, 2, 1}, {1, 1, 1}, {3, -1, 0}, {4, -1, 2}, {0, 0, 1}};
        for (int[] c : cases) {
            x.put(0, 0, c[0]);
            x.put(0, 1, c[1]);
            due.is("open at " + c[0] + ", " + c[1], x.open(0), c[2]);
        }
    }

    private static void factor() {
        FallingTerms x = new FallingTerms();
        x.loop(2);
        x.way(0);
        for (int name = 0; name < 2; name++) {
            for (int other = 0; other < 2; other++) {
                due.is("factor at first", x.factor(0, 0, name, other, -3), name == other ? 4 : 3);
                due.is("factor -3", x.factor(0, 0, name, other, 3), 0);
                due.is("factor 3", x.factor(0, 0, name, other, name == other ? 1 : 0), 6);
            }
        }
    }

    /** "all at once, by what they were" */
    private static void allAtOnce() {
        FallingTerms x = new FallingTerms();
        x.loop(3);
        x.way(0);
        // x becomes 2x - y + 1, y becomes x, z becomes x + y + z.
        x.factor(0, 0, 0, 0, 2);
        x.factor(0, 0, 0, 1, -1);
        x.constant(0, 0, 0, 1);
        x.factor(0, 0, 1, 0, 1);
        x.factor(0, 0, 1, 1, 0);
        x.factor(0, 0, 2, 0, 1);
        x.factor(0, 0, 2, 1, 1);
        x.put(0, 0, 10);
        x.put(0, 1, 3);
        x.put(0, 2, 100);
        x.step(0);
        due.is("x", x.at(0, 0), 18);
        due.is("y", x.at(0, 1), 10);
        due.is("z", x.at(0, 2), 113);
        x.go(0, 0);
        due.is("x again", x.at(0, 0), 27);
        due.is("y again", x.at(0, 1), 18);
        due.is("z again", x.at(0, 2), 141);
    }

    private static void constant() {
        FallingTerms x = new FallingTerms();
        x.loop(1);
        x.way(0);
        due.is("constant at first", x.constant(0, 0, 0, -99), 99);
        due.is("constant -99", x.constant(0, 0, 0, 99), 0);
        due.is("constant 99", x.constant(0, 0, 0, 5), 198);
        x.step(0);
        due.is("name 0", x.at(0, 0), 5);
    }

    private static void told() {
        FallingTerms x = new FallingTerms();
        x.loop(3);
        x.way(0);
        x.way(0);
        x.guard(0, 0, 0, 1, 0);
        due.is("told(0, 0)", x.told(0, 0), 3);
        due.is("told(0, 1)", x.told(0, 1), 2);
        due.is("told(0, 2)", x.told(0, 2), 1);
    }
}
