import java.io.IOException;
import java.lang.reflect.Method;
import java.nio.file.Files;
import java.nio.file.Path;
import java.util.HashMap;
import java.util.HashSet;
import java.util.Map;
import java.util.Set;
import java.util.regex.Matcher;
import java.util.regex.Pattern;

/** The example in README.md: each call answers the number that its comment begins with. It runs in the project's folder. */
public final class ReadmeTest {
    private static final Pattern MADE = Pattern.compile("FallingTerms x = new FallingTerms\\(\\);");
    private static final Pattern CALL =
            Pattern.compile("(?:int (\\w+) = )?x\\.(\\w+)\\(([^()]*)\\);\\s*// (-?\\d+): .*");
    private static final Due due = new Due();
    private static final Map<String, Integer> kept = new HashMap<>();
    private static final Set<String> called = new HashSet<>();

    public static void main(String[] args) throws IOException, ReflectiveOperationException {
        FallingTerms x = null;
        boolean inExample = false;
        for (String line : Files.readAllLines(Path.of("README.md"))) {
            if (line.startsWith("```")) {
                inExample = line.equals("```java");
            } else if (inExample && MADE.matcher(line).matches()) {
                x = new FallingTerms();
            } else if (inExample) {
                answers(x, line);
            }
        }
        theExampleShowsAll();
        due.finish();
    }

    private static void answers(FallingTerms x, String line) throws ReflectiveOperationException {
        Matcher call = CALL.matcher(line);
        boolean understood = x != null && call.matches();
        due.is("README.md has a line that is no call with its answer: " + line, understood ? 0 : 1, 0);
        if (!understood) {
            return;
        }
        String[] written = call.group(3).isEmpty() ? new String[0] : call.group(3).split(", ");
        Class<?>[] types = new Class<?>[written.length];
        Object[] numbers = new Object[written.length];
        for (int i = 0; i < written.length; i++) {
            types[i] = int.class;
            numbers[i] = kept.containsKey(written[i]) ? kept.get(written[i]) : Integer.valueOf(written[i]);
        }
        Method method = FallingTerms.class.getMethod(call.group(2), types);
        long answer = ((Number) method.invoke(x, numbers)).longValue();
        due.is("README.md: " + line, answer, Long.parseLong(call.group(4)));
        called.add(call.group(2));
        if (call.group(1) != null) {
            kept.put(call.group(1), (int) answer);
        }
    }

    /** A loop with its guard and ways is made, asked of and walked. */
    private static void theExampleShowsAll() {
        for (String name : new String[] {"loop", "guard", "way", "row", "factor", "prove", "proof", "need", "needed",
            "put", "at", "step", "walk", "ring"}) {
            due.is("README.md shows " + name, called.contains(name) ? 1 : 0, 1);
        }
    }
}
