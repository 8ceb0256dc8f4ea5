/** Promises 13 to 17: proofs and needs. */
public final class ProofTest {
    private static final int UNKNOWN = -2;
    private static final Due due = new Due();

    public static void main(String[] args) {
        threeInARow();
        greatestTerm();
        someLeft();
        latestStays();
        needs();
        needWithFullGuard();
        needMustLast();
        neededStays();
        due.finish();
    }

    private static void proofIs(FallingTerms x, String of, int[][] want) {
        for (int k = 0; k < want.length; k++) {
            for (int what = 0; what < 4; what++) {
                due.is(of + ": proof(" + k + ", " + what + ")", x.proof(k, what), want[k][what]);
            }
        }
        due.is(of + ": one more", x.proof(want.length, 0), -1000);
    }

    private static void neededIs(FallingTerms x, String of, int a, int b, int c, int d) {
        due.is(of + ": a", x.needed(0), a);
        due.is(of + ": b", x.needed(1), b);
        due.is(of + ": c", x.needed(2), c);
        due.is(of + ": d", x.needed(3), d);
    }

    private static FallingTerms countdown() {
        FallingTerms x = new FallingTerms();
        x.loop(1);
        x.guard(0, 1, 0, 0, 1);
        x.way(0);
        x.constant(0, 0, 0, -1);
        return x;
    }

    private static void threeInARow() {
        FallingTerms x = new FallingTerms();
        x.loop(3);
        // Way 0: z falls. Way 1: y falls, z is anything. Way 2: x falls, y and z are anything.
        x.way(0);
        x.way(0);
        x.way(0);
        x.guard(0, 1, 0, 0, 0);
        x.guard(0, 0, 1, 0, 0);
        x.guard(0, 0, 0, 1, 0);
        x.constant(0, 0, 2, -1);
        x.constant(0, 1, 1, -1);
        x.factor(0, 1, 2, 2, 3);
        x.constant(0, 1, 2, 99);
        x.constant(0, 2, 0, -1);
        x.factor(0, 2, 1, 1, 2);
        x.constant(0, 2, 1, 7);
        x.factor(0, 2, 2, 1, 1);
        due.is("three: prove", x.prove(0), 1);
        due.is("three: left", x.left(), 0);
        proofIs(x, "three", new int[][] {{1, 0, 0, 4}, {0, 1, 0, 2}, {0, 0, 1, 1}});
        due.is("three: need", x.need(0), 2);
        due.is("three: needed", x.needed(0), -1000);
    }

    private static void greatestTerm() {
        FallingTerms x = new FallingTerms();
        x.loop(2);
        // x becomes x - y, and y is 1/2: only twice x falls by 1.
        x.way(0);
        x.guard(0, 1, 0, 0, 0);
        x.guard(0, 0, 2, 0, 1);
        x.guard(0, 0, -2, 0, -1);
        x.factor(0, 0, 0, 1, -1);
        due.is("by halves: prove", x.prove(0), 1);
        proofIs(x, "by halves", new int[][] {{2, -2, 0, 1}});
    }

    private static void someLeft() {
        FallingTerms x = new FallingTerms();
        x.loop(2);
        x.way(0);
        x.way(0);
        x.guard(0, 1, 0, 0, 0);
        x.constant(0, 0, 0, -1);
        x.constant(0, 1, 1, 1);
        due.is("one left: prove", x.prove(0), 0);
        due.is("one left: left", x.left(), 2);
        proofIs(x, "one left", new int[][] {{1, 0, 0, 1}});
        // On way 1 x rises: nothing stays on both any more, nothing is taken.
        x.constant(0, 1, 0, 1);
        due.is("both left: prove", x.prove(0), 0);
        due.is("both left: left", x.left(), 3);
        proofIs(x, "both left", new int[0][]);
    }

    private static void latestStays() {
        FallingTerms x = countdown();
        x.loop(1);
        x.way(1);
        x.way(1);
        due.is("prove(0)", x.prove(0), 1);
        due.is("need(1)", x.need(1), 0);
        due.is("left() behind need()", x.left(), 0);
        proofIs(x, "behind need()", new int[][] {{1, 0, 0, 1}});
        due.is("prove(1)", x.prove(1), 0);
        due.is("left()", x.left(), 3);
        due.is("need(0)", x.need(0), 2);
        due.is("prove(7)", x.prove(7), UNKNOWN);
        due.is("left() behind UNKNOWN", x.left(), 3);
        proofIs(x, "behind UNKNOWN", new int[0][]);
        x.prove(0);
        x.constant(0, 0, 0, 0);
        x.way(0);
        proofIs(x, "behind a change of the loop", new int[][] {{1, 0, 0, 1}});
    }

    private static void needs() {
        FallingTerms x = new FallingTerms();
        x.loop(2);
        // While x >= 0: x becomes x + y. With x + y <= -1 y is -1 or less, and this lasts.
        x.way(0);
        x.guard(0, 1, 0, 0, 0);
        x.factor(0, 0, 0, 1, 1);
        due.is("x + y: prove", x.prove(0), 0);
        due.is("x + y: need", x.need(0), 1);
        neededIs(x, "x + y", -1, -1, 0, 1);

        x = new FallingTerms();
        x.loop(1);
        x.way(0);
        due.is("stands still: need", x.need(0), 0);
        for (int i = -1; i <= 4; i++) {
            due.is("stands still: needed", x.needed(i), -1000);
        }

        x = new FallingTerms();
        x.loop(2);
        // The same with rows so wide that only y <= -1 itself makes x fall.
        x.way(0);
        x.guard(0, 0, 1, 0, -9);
        x.guard(0, 1, 0, 0, -9);
        x.factor(0, 0, 0, 1, 1);
        due.is("y <= -1: need", x.need(0), 1);
        neededIs(x, "y <= -1", 0, -1, 0, 1);
    }

    private static void needWithFullGuard() {
        FallingTerms x = new FallingTerms();
        x.loop(2);
        x.way(0);
        x.factor(0, 0, 0, 1, 1);
        x.guard(0, 0, 1, 0, -9);
        x.guard(0, 1, 0, 0, -9);
        x.guard(0, 1, 0, 0, -10);
        x.guard(0, 1, 0, 0, -11);
        due.is("full guard: need", x.need(0), 1);
        neededIs(x, "full guard", 0, -1, 0, 1);
        due.is("full guard: rows", x.told(0, 2), 4);
    }

    private static void needMustLast() {
        FallingTerms x = new FallingTerms();
        x.loop(1);
        // x becomes -x + 20 from -9 on: x >= 2 or x <= 2 prove nothing that lasts.
        x.way(0);
        x.guard(0, 1, 0, 0, -9);
        x.factor(0, 0, 0, 0, -1);
        x.constant(0, 0, 0, 20);
        due.is("turns round: need", x.need(0), 0);

        x = new FallingTerms();
        x.loop(1);
        // x becomes 2x: -x >= 1 lasts, but nothing bounds x; with x >= -50 it is proved.
        x.way(0);
        x.factor(0, 0, 0, 0, 2);
        due.is("doubles: need", x.need(0), 0);
        x.guard(0, 1, 0, 0, -50);
        due.is("doubles, bounded: need", x.need(0), 1);
        neededIs(x, "doubles, bounded", -1, 0, 0, 1);
    }

    private static void neededStays() {
        FallingTerms x = new FallingTerms();
        x.loop(1);
        x.way(0);
        x.factor(0, 0, 0, 0, 2);
        x.guard(0, 1, 0, 0, -50);
        x.need(0);
        x.need(5);
        neededIs(x, "behind UNKNOWN", -1, 0, 0, 1);
        x.prove(0);
        neededIs(x, "behind prove()", -1, 0, 0, 1);
        x.loop(1);
        due.is("need of no ways", x.need(1), 2);
        due.is("behind a proved one", x.needed(0), -1000);
        x.need(0);
        neededIs(x, "again", -1, 0, 0, 1);
        x.way(1);
        due.is("need of what stands still", x.need(1), 0);
        for (int i = 0; i < 4; i++) {
            due.is("behind one without a need", x.needed(i), -1000);
        }
        x.need(0);
        x.factor(0, 0, 0, 0, 1);
        neededIs(x, "behind a change of the loop", -1, 0, 0, 1);
        x.clear();
        neededIs(x, "behind clear(), which ends loops and the proof", -1, 0, 0, 1);
    }
}
