import java.lang.reflect.Constructor;
import java.lang.reflect.Field;
import java.lang.reflect.Method;
import java.lang.reflect.Modifier;
import java.util.ArrayList;
import java.util.Arrays;
import java.util.Collections;
import java.util.List;

/** The document's public face, and nothing beside it (rules 1 and 5 of LANGUAGE.md). */
public final class FaceTest {
    private static final String[] FACE = {
        "int loop(1)", "int clear(0)", "int guard(5)", "int way(1)", "int row(6)", "int factor(5)",
        "int constant(4)", "int told(2)", "int empty(2)", "int holds(6)", "int term(5)", "int prove(1)",
        "int proof(2)", "int left(0)", "int need(1)", "int needed(1)", "int put(3)", "long at(2)",
        "int open(1)", "int step(1)", "int go(2)", "int walk(2)", "int ring(2)", "int loops(0)",
    };

    public static void main(String[] args) {
        Due due = new Due();
        due.is("NONE", FallingTerms.NONE, -1);
        due.is("UNKNOWN", FallingTerms.UNKNOWN, -2);
        due.is("OUTSIDE", FallingTerms.OUTSIDE, -3);
        due.is("ROOM", FallingTerms.ROOM, -4);
        due.is("LOST", FallingTerms.LOST, -5);
        methods(due);
        fields(due);
        Constructor<?>[] constructors = FallingTerms.class.getDeclaredConstructors();
        due.is("constructors", constructors.length, 1);
        due.is("constructor's parameters", constructors[0].getParameterCount(), 0);
        due.is("class is public and final", FallingTerms.class.getModifiers() & (Modifier.PUBLIC | Modifier.FINAL),
                Modifier.PUBLIC | Modifier.FINAL);
        due.finish();
    }

    private static void methods(Due due) {
        List<String> seen = new ArrayList<>();
        for (Method method : FallingTerms.class.getDeclaredMethods()) {
            if (Modifier.isPublic(method.getModifiers())) {
                seen.add(method.getReturnType() + " " + method.getName() + "(" + method.getParameterCount() + ")");
                for (Class<?> type : method.getParameterTypes()) {
                    due.is(method.getName() + " takes int", type == int.class ? 1 : 0, 1);
                }
            } else {
                due.is(method.getName() + " is private", Modifier.isPrivate(method.getModifiers()) ? 1 : 0, 1);
            }
        }
        List<String> want = new ArrayList<>(Arrays.asList(FACE));
        Collections.sort(seen);
        Collections.sort(want);
        due.is("public methods " + seen, seen.equals(want) ? 1 : 0, 1);
    }

    private static void fields(Due due) {
        int open = 0;
        for (Field field : FallingTerms.class.getDeclaredFields()) {
            int modifiers = field.getModifiers();
            if (!Modifier.isPrivate(modifiers)) {
                open++;
            }
            if (Modifier.isStatic(modifiers)) {
                due.is(field.getName() + " is final", Modifier.isFinal(modifiers) ? 1 : 0, 1);
            }
        }
        due.is("fields that are not private", open, 5);
    }
}
