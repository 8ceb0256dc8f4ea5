import java.io.IOException;
import java.lang.reflect.Field;
import java.lang.reflect.Method;
import java.lang.reflect.Modifier;
import java.nio.file.Files;
import java.nio.file.Path;
import java.util.ArrayList;
import java.util.HashSet;
import java.util.List;
import java.util.Set;
import java.util.regex.Matcher;
import java.util.regex.Pattern;

/** Those rules of LANGUAGE.md that can be seen from the class and from its text. It runs in the project's folder. */
public final class RulesTest {
    private static final Path SOURCE = Path.of("src", "main", "java", "FallingTerms.java");
    private static final int MOST_PARAMETERS = 7, MOST_CLASSES = 12, MOST_FIELDS = 20, MOST_LINES = 60;
    /** The class needs nothing of these, though some of them are allowed in places. */
    private static final String[] NOT_WRITTEN = {
        "\\bimport\\b", "\\bpackage\\b", "\\bthrow\\b", "\\btry\\b", "\\bcatch\\b", "\\bfinally\\b", "->", "::",
        "\\bsynchronized\\b", "\\bassert\\b", "\\bwhile\\b", "\\bprotected\\b", "\\bdouble\\b", "\\bfloat\\b",
        "\\bString\\b", "\\bSystem\\b", "\\bThread\\b", "Exact\\b", "\\bstatic \\{", "\\binstanceof\\b",
    };
    private static final Due due = new Due();

    public static void main(String[] args) throws IOException {
        List<Class<?>> classes = new ArrayList<>();
        classes.add(FallingTerms.class);
        for (Class<?> inside : FallingTerms.class.getDeclaredClasses()) {
            classes.add(inside);
            due.is(inside + " is private and static", inside.getModifiers() & (Modifier.PRIVATE | Modifier.STATIC),
                    Modifier.PRIVATE | Modifier.STATIC);
        }
        due.is("classes, at most " + MOST_CLASSES, classes.size() <= MOST_CLASSES ? 1 : 0, 1);
        for (Class<?> one : classes) {
            methods(one);
            fields(one);
        }
        String text = Files.readString(SOURCE).replaceAll("(?s)/\\*.*?\\*/", "").replaceAll("//[^\n]*", "");
        for (String word : NOT_WRITTEN) {
            Matcher found = Pattern.compile(word).matcher(text);
            due.is("written: " + word, found.find() ? 1 : 0, 0);
        }
        objectsAreMadeInConstructors(text);
        methodsAreShort(Files.readAllLines(SOURCE));
        due.finish();
    }

    /** Rules 1 and 11. */
    private static void methods(Class<?> of) {
        Set<String> face = new HashSet<>();
        for (Method method : FallingTerms.class.getDeclaredMethods()) {
            if (Modifier.isPublic(method.getModifiers())) {
                face.add(method.getName());
            }
        }
        for (Method method : of.getDeclaredMethods()) {
            due.is(method + ": parameters, at most " + MOST_PARAMETERS,
                    method.getParameterCount() <= MOST_PARAMETERS ? 1 : 0, 1);
            boolean ofTheFace = of == FallingTerms.class && Modifier.isPublic(method.getModifiers());
            due.is(method + " bears a name of the face", !ofTheFace && face.contains(method.getName()) ? 1 : 0, 0);
        }
    }

    /** Rules 5 and 11. */
    private static void fields(Class<?> of) {
        int own = 0;
        for (Field field : of.getDeclaredFields()) {
            if (!Modifier.isStatic(field.getModifiers())) {
                own++;
            } else {
                due.is(field + " is a final number", Modifier.isFinal(field.getModifiers())
                        && (field.getType() == int.class || field.getType() == long.class) ? 1 : 0, 1);
            }
        }
        due.is("fields of " + of + ", at most " + MOST_FIELDS, own <= MOST_FIELDS ? 1 : 0, 1);
    }

    /** Rule 12: what a run makes is counted, so no method makes anything. */
    private static void objectsAreMadeInConstructors(String text) {
        for (String line : text.split("\n")) {
            boolean makes = Pattern.compile("\\bnew\\b").matcher(line).find();
            boolean inAField = line.matches("\\s*private final .*");
            boolean inAConstructor = line.matches("\\s*(made|ways|spaces|narrowed)\\[i\\] = new \\w+\\(\\);")
                    || line.contains("this.numbers = new int[");
            due.is("made in a method:" + line, makes && !inAField && !inAConstructor ? 1 : 0, 0);
        }
    }

    /** Rule 11: from a method's head to its closing brace, which stands as far to the left. */
    private static void methodsAreShort(List<String> lines) {
        Pattern head = Pattern.compile("( {4}| {8})(?! )[\\w\\[\\]. ]+\\(.*\\) \\{");
        for (int i = 0; i < lines.size(); i++) {
            Matcher found = head.matcher(lines.get(i));
            int end = i;
            while (found.matches() && end < lines.size() && !lines.get(end).equals(found.group(1) + "}")) {
                end++;
            }
            due.is("lines of" + lines.get(i), end - i <= MOST_LINES ? 1 : 0, 1);
        }
    }
}
