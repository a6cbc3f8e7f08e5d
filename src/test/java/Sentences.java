import java.io.IOException;
import java.nio.file.Files;
import java.nio.file.Path;
import java.util.LinkedHashMap;
import java.util.Map;
import java.util.function.Consumer;
import java.util.regex.Matcher;
import java.util.regex.Pattern;

/**
 * What the document says, each sentence (or a part of it that can be broken by itself) with a test
 * of its own. Words that the document hasn't are wrong here, and so are words of it that no test
 * is written for.
 */
final class Sentences {
    static final String TERMS = "Terms";
    static final String SECOND = "II";
    private static final Path DOCUMENT = Path.of("../shared/DOC.md");

    private final Due due;
    private final Map<String, String> told = new LinkedHashMap<>();
    private final Map<String, boolean[]> tested = new LinkedHashMap<>();
    private String section = TERMS;

    Sentences(Due due) throws IOException {
        this.due = due;
        if (Files.isReadable(DOCUMENT)) {
            take(Files.readString(DOCUMENT));
        } else {
            System.out.println(DOCUMENT + " isn't here: what is quoted isn't looked up");
        }
    }

    private void take(String document) {
        String terms = between(document, "## Terms", "## Promise 1:");
        int second = terms.indexOf("==== II.");
        keep(TERMS, terms.substring(0, second));
        keep(SECOND, terms.substring(second + "==== II.".length()));
        Matcher promise = Pattern.compile("## Promise (\\d+):[^\n]*\n+`[^`]*`:([^\n]*)").matcher(document);
        while (promise.find()) {
            keep(promise.group(1), promise.group(2));
        }
    }

    private static String between(String document, String from, String to) {
        int start = document.indexOf(from) + from.length();
        return document.substring(start, document.indexOf(to, start));
    }

    private void keep(String name, String words) {
        String plain = words.replace("```text", " ").replace("```", " ").replaceAll("\\s+", " ").trim();
        told.put(name, plain);
        tested.put(name, new boolean[plain.length()]);
    }

    Sentences in(String name) {
        section = name;
        return this;
    }

    Sentences promise(int number) {
        return in(String.valueOf(number));
    }

    /** A test of its own for these words of the section that is told last. */
    Sentences that(String words, Consumer<Due> test) {
        due.within(section + ": " + words);
        mark(words);
        int before = due.asked();
        test.accept(due);
        due.yes("something is asked", due.asked() > before);
        due.within("");
        return this;
    }

    private void mark(String words) {
        if (told.isEmpty()) {
            return;
        }
        String document = told.getOrDefault(section, "");
        int from = document.indexOf(words);
        due.yes("the document says so", from >= 0);
        due.is("it says so once: where", document.lastIndexOf(words), from);
        for (int i = from; from >= 0 && i < from + words.length(); i++) {
            tested.get(section)[i] = true;
        }
    }

    /** Every word of every section has a test. */
    void end() {
        for (String name : told.keySet()) {
            String words = told.get(name);
            boolean[] marks = tested.get(name);
            StringBuilder left = new StringBuilder();
            for (int i = 0; i <= words.length(); i++) {
                if (i < words.length() && !marks[i]) {
                    left.append(words.charAt(i));
                } else {
                    due.no("no test for these words of " + name + ": \"" + left + "\":",
                            left.toString().matches(".*[A-Za-z0-9].*"));
                    left.setLength(0);
                }
            }
        }
    }
}
