import java.io.IOException;
import java.lang.reflect.Method;
import java.lang.reflect.Modifier;
import java.nio.file.Files;
import java.nio.file.Path;
import java.util.Map;
import java.util.TreeMap;
import java.util.regex.Matcher;
import java.util.regex.Pattern;

/** README.md says how to use the class: each call on it answers what stands behind it there. */
final class ReadmeTest {
    private static final Path README = Path.of("README.md");
    private static final Pattern CALL =
            Pattern.compile("x\\.(\\w+)\\(([^)]*)\\);\\s+// (-?\\d+|true|false)(:? .*)?");

    private static final Due due = new Due();
    private static final Map<String, Method> FACE = new TreeMap<>();
    private static final Map<String, Integer> called = new TreeMap<>();
    private static PatchedColumns x = new PatchedColumns();

    public static void main(String[] args) throws IOException, ReflectiveOperationException {
        for (Method method : PatchedColumns.class.getDeclaredMethods()) {
            if (Modifier.isPublic(method.getModifiers())) {
                FACE.put(method.getName(), method);
            }
        }
        boolean inside = false;
        for (String line : Files.readAllLines(README)) {
            if (line.startsWith("```")) {
                inside = line.equals("```java");
            } else if (inside) {
                take(line.trim());
            }
        }
        for (String name : FACE.keySet()) {
            due.yes("the page shows " + name, called.containsKey(name));
        }
        due.end("ReadmeTest");
    }

    private static void take(String line) throws ReflectiveOperationException {
        if (line.isEmpty()) {
            return;
        }
        if (line.equals("PatchedColumns x = new PatchedColumns();")) {
            x = new PatchedColumns();
            return;
        }
        Matcher call = CALL.matcher(line);
        boolean plain = call.matches() && FACE.containsKey(call.group(1));
        due.yes("a call with its answer: " + line, plain);
        if (plain) {
            called.merge(call.group(1), 1, Integer::sum);
            due.is(line, answer(FACE.get(call.group(1)), call.group(2)), number(call.group(3)));
        }
    }

    private static long answer(Method method, String told) throws ReflectiveOperationException {
        Class<?>[] kinds = method.getParameterTypes();
        String[] words = told.isEmpty() ? new String[0] : told.split(", ");
        Object[] given = new Object[kinds.length];
        for (int i = 0; i < given.length; i++) {
            given[i] = kinds[i] == boolean.class ? (Object) Boolean.valueOf(words[i])
                    : (Object) Integer.valueOf(words[i]);
        }
        return number(String.valueOf(method.invoke(x, given)));
    }

    /** As the shared tests count: true is 1, false 0. */
    private static long number(String told) {
        switch (told) {
            case "true":
                return 1;
            case "false":
                return 0;
            default:
                return Long.parseLong(told);
        }
    }
}
