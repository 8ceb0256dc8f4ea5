import java.util.ArrayList;
import java.util.List;

/** Objects that have something of everything, and all that can be asked of such an object. */
final class Rich {
    private final FallingTerms x;
    private final List<String> answers = new ArrayList<>();

    private Rich(FallingTerms x) {
        this.x = x;
    }

    /** Loop 0 is full, loops 1 and 2 are not; a proof, ways left and a need can be told. */
    static FallingTerms ofThree() {
        FallingTerms x = new FallingTerms();
        fullLoop(x);
        twoWays(x);
        threeNames(x);
        x.prove(1);
        x.need(1);
        return x;
    }

    /** The same with five loops more, which have nothing: there is no room for another one. */
    static FallingTerms ofEight() {
        FallingTerms x = ofThree();
        for (int i = 3; i < 8; i++) {
            x.loop(2);
        }
        return x;
    }

    private static void fullLoop(FallingTerms x) {
        x.loop(1);
        x.guard(0, 1, 0, 0, -50);
        x.guard(0, -1, 0, 0, -60);
        x.guard(0, 2, 0, 0, -90);
        x.guard(0, -2, 0, 0, -110);
        for (int way = 0; way < 3; way++) {
            x.way(0);
            x.row(0, way, 1, 0, 0, way);
            x.row(0, way, -1, 0, 0, -40 - way);
            x.factor(0, way, 0, 0, 2 - way);
            x.constant(0, way, 0, way - 1);
        }
        x.put(0, 0, 4);
    }

    /** While x >= 0, y rises or x falls: the first way is left, the second one is taken. */
    private static void twoWays(FallingTerms x) {
        x.loop(2);
        x.guard(1, 1, 0, 0, 0);
        x.way(1);
        x.way(1);
        x.constant(1, 0, 1, 1);
        x.constant(1, 1, 0, -1);
        x.put(1, 0, 3);
        x.put(1, 1, -4);
    }

    private static void threeNames(FallingTerms x) {
        x.loop(3);
        x.guard(2, 1, 1, 0, -3);
        x.guard(2, 0, -1, 1, -2);
        x.way(2);
        x.row(2, 0, 1, 0, 1, -5);
        x.factor(2, 0, 0, 2, -1);
        x.factor(2, 0, 1, 1, 3);
        x.constant(2, 0, 2, -7);
        x.put(2, 0, 5);
        x.put(2, 1, -6);
        x.put(2, 2, 7);
    }

    /** The answers of all that can be asked; the object is changed by the last of these calls. */
    static List<String> tell(FallingTerms x) {
        Rich rich = new Rich(x);
        rich.latest();
        int loops = x.loops();
        rich.note("loops()", loops);
        for (int loop = 0; loop < loops; loop++) {
            rich.ofLoop(loop);
        }
        for (int loop = 0; loop < Math.min(3, loops); loop++) {
            rich.judged(loop);
        }
        for (int loop = 0; loop < Math.min(3, loops); loop++) {
            rich.changes(loop);
            rich.room(loop);
        }
        for (int i = loops; i <= 8; i++) {
            rich.note("loop(1)", x.loop(1));
        }
        rich.note("clear()", x.clear());
        return rich.answers;
    }

    private void note(String call, long answer) {
        answers.add(call + " = " + answer);
    }

    private void latest() {
        note("left()", x.left());
        for (int k = 0; k < 3; k++) {
            for (int what = 0; what < 4; what++) {
                note("proof(" + k + ", " + what + ")", x.proof(k, what));
            }
        }
        needed();
    }

    private void needed() {
        for (int i = 0; i < 4; i++) {
            note("needed(" + i + ")", x.needed(i));
        }
    }

    private void ofLoop(int loop) {
        for (int what = 0; what < 3; what++) {
            note("told(" + loop + ", " + what + ")", x.told(loop, what));
        }
        for (int name = 0; name < x.told(loop, 0); name++) {
            note("at(" + loop + ", " + name + ")", x.at(loop, name));
        }
        note("open(" + loop + ")", x.open(loop));
        for (int way = 0; way < x.told(loop, 1); way++) {
            note("empty(" + loop + ", " + way + ")", x.empty(loop, way));
            for (int sign = -1; sign <= 1; sign += 2) {
                note("term(" + loop + ", " + way + ", " + sign + ")", x.term(loop, way, sign, 0, 0));
                note("holds(" + loop + ", " + way + ", " + sign + ")", x.holds(loop, way, sign, 0, 0, -40));
            }
        }
    }

    private void judged(int loop) {
        note("prove(" + loop + ")", x.prove(loop));
        note("left()", x.left());
        note("proof(0, 0)", x.proof(0, 0));
        note("need(" + loop + ")", x.need(loop));
        needed();
        note("go(" + loop + ", 0)", x.go(loop, 0));
        note("walk(" + loop + ", 3)", x.walk(loop, 3));
        note("at(" + loop + ", 0)", x.at(loop, 0));
        note("ring(" + loop + ", 2)", x.ring(loop, 2));
        note("at(" + loop + ", 0)", x.at(loop, 0));
    }

    /** What each factor and each constant was, told by setting it to 0. */
    private void changes(int loop) {
        for (int way = 0; way < x.told(loop, 1); way++) {
            for (int name = 0; name < x.told(loop, 0); name++) {
                for (int other = 0; other < x.told(loop, 0); other++) {
                    note("factor(" + loop + ", " + way + ", " + name + ", " + other + ")",
                            x.factor(loop, way, name, other, 0));
                }
                note("constant(" + loop + ", " + way + ", " + name + ")", x.constant(loop, way, name, 0));
            }
        }
    }

    /** How many rows and ways there were, told by adding till there is no room. */
    private void room(int loop) {
        for (int way = 0; way < x.told(loop, 1); way++) {
            for (int i = 0; i < 3; i++) {
                note("row(" + loop + ", " + way + ")", x.row(loop, way, 1, 0, 0, 0));
            }
        }
        for (int i = 0; i < 4; i++) {
            note("way(" + loop + ")", x.way(loop));
        }
        for (int i = 0; i < 5; i++) {
            note("guard(" + loop + ")", x.guard(loop, 1, 0, 0, 0));
        }
    }
}
