import java.util.ArrayList;
import java.util.List;
import java.util.Random;

/** Runs of calls, drawn from a fixed seed, on the class and on the reference: every answer is the same. */
public final class RandomTest {
    private static final int[] EXTREMES = {Integer.MIN_VALUE, Integer.MIN_VALUE + 1, -1001, -10, -1, 0, 1, 10,
        1001, Integer.MAX_VALUE};

    private final Random random;
    private final FallingTerms x = new FallingTerms();
    private final Reference y = new Reference();
    private final List<String> calls = new ArrayList<>();
    private boolean same = true;

    private RandomTest(long seed) {
        random = new Random(seed);
    }

    public static void main(String[] args) {
        int count = args.length > 0 ? Integer.parseInt(args[0]) : 1;
        long first = args.length > 1 ? Long.parseLong(args[1]) : 1;
        Due due = new Due();
        for (long seed = first; seed < first + 1500L * count && due.wrong() == 0; seed++) {
            due.is("judged loops, seed " + seed, new RandomTest(seed).judgeLoops() ? 1 : 0, 1);
            due.is("any calls, seed " + seed, new RandomTest(seed).anyCalls() ? 1 : 0, 1);
            due.is("greatest rows, seed " + seed, new RandomTest(seed).greatestRows() ? 1 : 0, 1);
        }
        due.finish();
    }

    private void compare(String call, long got, long want) {
        calls.add(call + " = " + got);
        if (same && got != want) {
            same = false;
            for (String line : calls) {
                System.out.println(line);
            }
            System.out.println("due is " + want);
        }
    }

    private int in(int least, int most) {
        return least + random.nextInt(most - least + 1);
    }

    /** Mostly small, so that spaces are neither empty nor all there is. */
    private int weight() {
        return random.nextInt(3) > 0 ? in(-1, 1) : random.nextInt(3) > 0 ? in(-3, 3) : in(-9, 9);
    }

    private int sum() {
        return random.nextInt(3) > 0 ? in(-3, 3) : random.nextInt(3) > 0 ? in(-20, 20) : in(-1000, 1000);
    }

    private int weightOf(int name, int names) {
        return name < names ? weight() : 0;
    }

    private boolean judgeLoops() {
        int names = in(1, 3);
        compare("loop(" + names + ")", x.loop(names), y.loop(names));
        for (int i = in(0, 4); i > 0; i--) {
            guard(0, weight(), weightOf(1, names), weightOf(2, names), sum());
        }
        int ways = in(1, 3);
        for (int way = 0; way < ways; way++) {
            compare("way(0)", x.way(0), y.way(0));
            for (int i = in(0, 2); i > 0; i--) {
                row(0, way, weight(), weightOf(1, names), weightOf(2, names), sum());
            }
            drawChange(way, names);
        }
        judge(names, ways);
        return same;
    }

    /** A full guard and a full way of rows with numbers at their bounds: no space has more or greater corners. */
    private boolean greatestRows() {
        compare("loop(3)", x.loop(3), y.loop(3));
        compare("way(0)", x.way(0), y.way(0));
        for (int i = 0; i < 4; i++) {
            guard(0, nearBound(9, 2), nearBound(9, 2), nearBound(9, 2), -Math.abs(nearBound(1000, 9)));
        }
        for (int i = 0; i < 2; i++) {
            row(0, 0, nearBound(9, 2), nearBound(9, 2), nearBound(9, 2), nearBound(1000, 9));
        }
        for (int name = 0; name < 3; name++) {
            constant(0, 0, name, nearBound(99, 9));
            factor(0, 0, name, in(0, 2), nearBound(3, 1));
        }
        compare("empty(0, 0)", x.empty(0, 0), y.empty(0, 0));
        for (int i = 0; i < 20; i++) {
            holds(0, 0, weight(), weight(), weight(), random.nextBoolean() ? sum() : in(-1000, 1000));
            term(0, 0, in(-2, 2), in(-2, 2), in(-2, 2));
        }
        return same;
    }

    private int nearBound(int bound, int within) {
        int size = bound - in(0, within);
        return random.nextBoolean() ? size : -size;
    }

    private void drawChange(int way, int names) {
        int style = in(0, 3);
        for (int name = 0; name < names; name++) {
            if (style > 0) {
                constant(0, way, name, random.nextInt(3) > 0 ? in(-2, 2) : in(-99, 99));
            }
            for (int other = 0; other < names; other++) {
                if (random.nextInt(4) < style) {
                    factor(0, way, name, other, random.nextInt(3) > 0 ? in(-1, 1) : in(-3, 3));
                }
            }
        }
    }

    private void judge(int names, int ways) {
        for (int way = 0; way < ways; way++) {
            compare("empty(0, " + way + ")", x.empty(0, way), y.empty(0, way));
            for (int i = 0; i < 10; i++) {
                holds(0, way, weight(), weightOf(1, names), weightOf(2, names), sum());
                term(0, way, in(-2, 2), names > 1 ? in(-2, 2) : 0, names > 2 ? in(-2, 2) : 0);
            }
        }
        compare("prove(0)", x.prove(0), y.prove(0));
        tellProof();
        if (names < 3 || random.nextInt(8) == 0) {
            need(0);
        }
        tellProof();
        int size = in(0, names == 3 ? 3 : 6);
        compare("ring(0, " + size + ")", x.ring(0, size), y.ring(0, size));
        for (int name = 0; name < names; name++) {
            compare("at(0, " + name + ")", x.at(0, name), y.at(0, name));
            put(0, name, in(-20, 20));
        }
        for (int i = 0; i < 5; i++) {
            compare("open(0)", x.open(0), y.open(0));
            int way = in(0, ways - 1);
            compare("go(0, " + way + ")", x.go(0, way), y.go(0, way));
            compare("step(0)", x.step(0), y.step(0));
            int n = in(0, 10);
            compare("walk(0, " + n + ")", x.walk(0, n), y.walk(0, n));
            for (int name = 0; name < names; name++) {
                compare("at(0, " + name + ")", x.at(0, name), y.at(0, name));
            }
        }
    }

    private void tellProof() {
        compare("left()", x.left(), y.left());
        for (int k = 0; k <= 3; k++) {
            for (int what = 0; what <= 4; what++) {
                compare("proof(" + k + ", " + what + ")", x.proof(k, what), y.proof(k, what));
            }
        }
    }

    private void need(int loop) {
        compare("need(" + loop + ")", x.need(loop), y.need(loop));
        for (int i = -1; i <= 4; i++) {
            compare("needed(" + i + ")", x.needed(i), y.needed(i));
        }
    }

    /** Now and then an argument that nothing fits. */
    private int arg(int least, int most) {
        int kind = random.nextInt(40);
        return kind == 0 ? EXTREMES[random.nextInt(EXTREMES.length)]
                : kind == 1 ? least - 1 : kind == 2 ? most + 1 : in(least, most);
    }

    private int third() {
        return random.nextInt(3) > 0 ? 0 : arg(-2, 2);
    }

    private boolean anyCalls() {
        // An object is used for 512 calls at most; the dearest kind below makes 21.
        while (calls.size() <= 490) {
            int loop = arg(0, Math.max(0, y.loops() - 1));
            int way = arg(0, Math.max(0, y.told(loop, 1) - 1));
            int name = arg(0, Math.max(0, y.told(loop, 0) - 1));
            int kind = random.nextInt(48);
            if (kind < 24) {
                build(kind, loop, way, name);
            } else {
                ask(kind, loop, way, name);
            }
        }
        return same;
    }

    private void build(int kind, int loop, int way, int name) {
        if (kind < 4) {
            int names = arg(1, 3);
            compare("loop(" + names + ")", x.loop(names), y.loop(names));
        } else if (kind < 5) {
            if (random.nextInt(4) == 0) {
                compare("clear()", x.clear(), y.clear());
            }
        } else if (kind < 9) {
            guard(loop, arg(-2, 2), third(), third(), arg(-9, 9));
        } else if (kind < 12) {
            compare("way(" + loop + ")", x.way(loop), y.way(loop));
        } else if (kind < 15) {
            row(loop, way, arg(-2, 2), third(), third(), arg(-9, 9));
        } else if (kind < 20) {
            factor(loop, way, name, arg(0, 2), arg(-3, 3));
        } else {
            constant(loop, way, name, arg(-99, 99));
        }
    }

    private void ask(int kind, int loop, int way, int name) {
        int what = arg(0, 3);
        int n = random.nextInt(5) == 0 ? arg(0, 1000) : arg(0, 20);
        switch (kind) {
            case 24 -> compare("told(" + loop + ", " + what + ")", x.told(loop, what), y.told(loop, what));
            case 25 -> compare("empty(" + loop + ", " + way + ")", x.empty(loop, way), y.empty(loop, way));
            case 26, 27, 28 -> holds(loop, way, arg(-2, 2), third(), third(), arg(-9, 9));
            case 29, 30, 31 -> term(loop, way, arg(-2, 2), third(), third());
            case 32, 33 -> compare("prove(" + loop + ")", x.prove(loop), y.prove(loop));
            case 34, 35 -> tellProof();
            case 36 -> {
                if (y.told(loop, 0) < 3 || random.nextInt(20) == 0) {
                    need(loop);
                }
            }
            case 37, 38 -> put(loop, name, random.nextBoolean() ? arg(-1000000, 1000000) : arg(-9, 9));
            case 39 -> compare("at(" + loop + ", " + name + ")", x.at(loop, name), y.at(loop, name));
            case 40 -> compare("open(" + loop + ")", x.open(loop), y.open(loop));
            case 41, 42 -> compare("step(" + loop + ")", x.step(loop), y.step(loop));
            case 43 -> compare("go(" + loop + ", " + way + ")", x.go(loop, way), y.go(loop, way));
            case 44, 45 -> compare("walk(" + loop + ", " + n + ")", x.walk(loop, n), y.walk(loop, n));
            case 46 -> {
                int size = y.told(loop, 0) > 2 ? arg(0, 2) : arg(0, 6);
                compare("ring(" + loop + ", " + size + ")", x.ring(loop, size), y.ring(loop, size));
            }
            default -> compare("loops()", x.loops(), y.loops());
        }
    }

    private void guard(int loop, int a, int b, int c, int d) {
        compare("guard" + list(loop, a, b, c, d), x.guard(loop, a, b, c, d), y.guard(loop, a, b, c, d));
    }

    private void row(int loop, int way, int a, int b, int c, int d) {
        compare("row" + list(loop, way, a, b, c, d), x.row(loop, way, a, b, c, d), y.row(loop, way, a, b, c, d));
    }

    private void factor(int loop, int way, int name, int other, int v) {
        compare("factor" + list(loop, way, name, other, v), x.factor(loop, way, name, other, v),
                y.factor(loop, way, name, other, v));
    }

    private void constant(int loop, int way, int name, int v) {
        compare("constant" + list(loop, way, name, v), x.constant(loop, way, name, v),
                y.constant(loop, way, name, v));
    }

    private void holds(int loop, int way, int a, int b, int c, int d) {
        compare("holds" + list(loop, way, a, b, c, d), x.holds(loop, way, a, b, c, d),
                y.holds(loop, way, a, b, c, d));
    }

    private void term(int loop, int way, int t, int u, int v) {
        compare("term" + list(loop, way, t, u, v), x.term(loop, way, t, u, v), y.term(loop, way, t, u, v));
    }

    private void put(int loop, int name, int v) {
        compare("put" + list(loop, name, v), x.put(loop, name, v), y.put(loop, name, v));
    }

    private static String list(int... n) {
        StringBuilder text = new StringBuilder("(");
        for (int i = 0; i < n.length; i++) {
            text.append(i > 0 ? ", " : "").append(n[i]);
        }
        return text.append(")").toString();
    }
}
