import java.io.IOException;
import java.nio.file.Files;
import java.nio.file.Path;
import java.util.List;

/** What LANGUAGE.md rules out doesn't stand in the source (rules 2 to 7, 11, 13). */
final class SourceTest {
    private static final Path SOURCE = Path.of("src/main/java/PatchedColumns.java");
    private static final String[] RULED_OUT = {
        "package ", "->", "::", "catch", "try", "throw", "finally", "synchronized", "assert",
        "instanceof", "Exact(", "Double.", "Float.", "Object", "hashCode", "equals", "toString",
        "Random", "Thread", "currentTime", "nanoTime", "java.io", "protected ", "var ", "record ",
    };

    private static final Due due = new Due();

    public static void main(String[] args) throws IOException {
        List<String> lines = Files.readAllLines(SOURCE);
        for (int i = 0; i < lines.size(); i++) {
            look(i + 1, lines.get(i));
        }
        methodsAreShort(lines);
        due.end("SourceTest");
    }

    private static void look(int number, String line) {
        String code = line.replaceAll("^\\s*(/\\*\\*|\\*|//).*", "");
        for (String word : RULED_OUT) {
            due.no("line " + number + " has " + word, code.contains(word));
        }
        if (code.startsWith("import")) {
            due.yes("line " + number + " imports Arrays", code.equals("import java.util.Arrays;"));
        }
        due.yes("line " + number + " is plain", line.chars().allMatch(c -> c >= 32 && c < 127));
        due.yes("line " + number + " is short", line.length() <= 100);
    }

    /** Methods of the class stand four signs in, those of the classes inside it eight. */
    private static void methodsAreShort(List<String> lines) {
        for (String ahead : List.of("    ", "        ")) {
            int first = -1;
            for (int i = 0; i < lines.size(); i++) {
                String line = lines.get(i);
                if (line.matches(ahead + "\\S.*\\(.*")) {
                    first = i;
                } else if (line.matches(ahead + "\\S.*")) {
                    boolean isShort = first < 0 || i - first <= 60;
                    due.yes("the method at line " + (first + 1) + " is short", isShort);
                    first = -1;
                }
            }
        }
    }
}
