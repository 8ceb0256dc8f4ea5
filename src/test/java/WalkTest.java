/** Promises 18 to 24: states, ways that are open, the walk and rings. */
public final class WalkTest {
    private static final int NONE = -1;
    private static final Due due = new Due();

    public static void main(String[] args) {
        putAndAt();
        open();
        step();
        go();
        walk();
        ring();
        ringsOfAllNames();
        ringElsewhere();
        due.finish();
    }

    private static void putAndAt() {
        FallingTerms x = new FallingTerms();
        x.loop(2);
        x.loop(2);
        due.is("put", x.put(0, 0, 1000000), 1);
        due.is("put", x.put(0, 1, -1000000), 1);
        due.is("put", x.put(1, 1, 3), 1);
        due.is("at", x.at(0, 0), 1000000);
        due.is("at", x.at(0, 1), -1000000);
        due.is("at of another loop", x.at(1, 0), 0);
        due.is("at of another loop", x.at(1, 1), 3);
        due.is("put again", x.put(0, 0, 0), 1);
        due.is("at", x.at(0, 0), 0);
    }

    private static FallingTerms threeWays() {
        FallingTerms x = new FallingTerms();
        x.loop(2);
        x.guard(0, 1, 1, 0, 0);
        x.way(0);
        x.way(0);
        x.way(0);
        x.row(0, 0, 1, 0, 0, 5);
        x.row(0, 0, -1, 0, 0, -9);
        x.row(0, 1, 0, 1, 0, 1);
        x.constant(0, 0, 0, -2);
        x.constant(0, 1, 1, -1);
        x.constant(0, 2, 0, -1);
        x.constant(0, 2, 1, -1);
        return x;
    }

    private static void open() {
        FallingTerms x = threeWays();
        int[][] cases = {{0, 0, 4}, {5, 0, 5}, {9, 1, 7}, {10, 1, 6}, {4, 1, 6}, {9, -9, 5}, {9, -10, 0}, {-1, 1, 6}};
        for (int[] c : cases) {
            x.put(0, 0, c[0]);
            x.put(0, 1, c[1]);
            due.is("open at " + c[0] + ", " + c[1], x.open(0), c[2]);
        }
        x.loop(1);
        due.is("open without ways", x.open(1), 0);
    }

    private static void step() {
        FallingTerms x = threeWays();
        x.put(0, 0, 6);
        x.put(0, 1, 1);
        int[][] steps = {{0, 4, 1}, {1, 4, 0}, {2, 3, -1}, {2, 2, -2}, {2, 1, -3}, {NONE, 1, -3}};
        for (int[] s : steps) {
            due.is("step", x.step(0), s[0]);
            due.is("first", x.at(0, 0), s[1]);
            due.is("second", x.at(0, 1), s[2]);
        }
        x.loop(3);
        due.is("step without ways", x.step(1), NONE);
    }

    private static void go() {
        FallingTerms x = threeWays();
        due.is("go(0, 0) not open", x.go(0, 0), 0);
        due.is("go(0, 1) not open", x.go(0, 1), 0);
        due.is("go(0, 2)", x.go(0, 2), 1);
        due.is("first", x.at(0, 0), -1);
        due.is("second", x.at(0, 1), -1);
        due.is("go(0, 2), the guard does not hold", x.go(0, 2), 0);
        due.is("first", x.at(0, 0), -1);
        x.put(0, 0, 7);
        x.put(0, 1, 2);
        due.is("go(0, 1), not the first that is open", x.go(0, 1), 1);
        due.is("first", x.at(0, 0), 7);
        due.is("second", x.at(0, 1), 1);
    }

    private static void walk() {
        FallingTerms x = new FallingTerms();
        x.loop(1);
        x.way(0);
        x.constant(0, 0, 0, 1);
        due.is("walk 0", x.walk(0, 0), 0);
        due.is("at", x.at(0, 0), 0);
        due.is("walk 1000", x.walk(0, 1000), 1000);
        due.is("at", x.at(0, 0), 1000);
        x.guard(0, -1, 0, 0, -999);
        due.is("walk, the guard does not hold", x.walk(0, 5), 0);
        x.put(0, 0, 990);
        due.is("walk to the end", x.walk(0, 10), 10);
        due.is("at", x.at(0, 0), 1000);
        x.put(0, 0, 990);
        due.is("walk beyond the end", x.walk(0, 11), 10);
    }

    private static void ring() {
        FallingTerms x = new FallingTerms();
        x.loop(2);
        due.is("ring without ways", x.ring(0, 6), 0);
        x.way(0);
        due.is("stands still", x.ring(0, 6), 1);
        due.is("first", x.at(0, 0), -6);
        due.is("second", x.at(0, 1), -6);
        x.put(0, 0, 50);
        due.is("stands still, size 0", x.ring(0, 0), 1);
        due.is("first", x.at(0, 0), 0);
        // x becomes -y, y becomes x: a ring of 4, till the guard breaks it.
        x.factor(0, 0, 0, 0, 0);
        x.factor(0, 0, 0, 1, -1);
        x.factor(0, 0, 1, 1, 0);
        x.factor(0, 0, 1, 0, 1);
        due.is("turns", x.ring(0, 2), 4);
        due.is("first", x.at(0, 0), -2);
        due.is("second", x.at(0, 1), -2);
        x.guard(0, 1, 0, 0, 0);
        due.is("turns round 0 alone", x.ring(0, 6), 1);
        due.is("first", x.at(0, 0), 0);
        x.guard(0, 1, 1, 0, 1);
        x.put(0, 0, 3);
        x.put(0, 1, 4);
        due.is("broken", x.ring(0, 6), 0);
        due.is("the state stays", x.at(0, 0), 3);
        due.is("the state stays", x.at(0, 1), 4);
    }

    private static void ringsOfAllNames() {
        FallingTerms x = new FallingTerms();
        x.loop(3);
        x.way(0);
        x.guard(0, 1, 0, 0, 2);
        x.guard(0, 0, 1, 0, -3);
        x.guard(0, 0, 0, 1, 1);
        due.is("ring of three names", x.ring(0, 6), 1);
        due.is("name 0", x.at(0, 0), 2);
        due.is("name 1", x.at(0, 1), -3);
        due.is("name 2", x.at(0, 2), 1);
        due.is("ring of three names, too small", x.ring(0, 1), 0);
        x.guard(0, -1, 0, 1, 4);
        due.is("ring, z >= x + 4", x.ring(0, 6), 1);
        due.is("name 0", x.at(0, 0), 2);
        due.is("name 1", x.at(0, 1), -3);
        due.is("name 2", x.at(0, 2), 6);
    }

    private static void ringElsewhere() {
        FallingTerms x = new FallingTerms();
        x.loop(1);
        x.way(0);
        x.way(0);
        // Below 3 it goes up by 1, from 3 on it becomes 7 less itself.
        x.row(0, 0, -1, 0, 0, -2);
        x.constant(0, 0, 0, 1);
        x.factor(0, 1, 0, 0, -1);
        x.constant(0, 1, 0, 7);
        // 3 becomes 4, 4 becomes 3; -6 .. 2 lead there and are not there again.
        due.is("a ring behind a lead", x.ring(0, 6), 2);
        due.is("its first state", x.at(0, 0), 3);
        due.is("none within 2", x.ring(0, 2), 0);
    }
}
