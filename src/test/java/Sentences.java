import java.io.IOException;
import java.io.UncheckedIOException;
import java.nio.file.Files;
import java.nio.file.Path;
import java.util.ArrayList;
import java.util.List;
import java.util.Map;
import java.util.TreeMap;
import java.util.regex.Matcher;
import java.util.regex.Pattern;

/**
 * The sentences of the document, by promise (0 is what stands ahead of the promises). Each test of an edge begins with
 * the words of the sentence that it is about; finish() then tells which sentences have no test.
 */
final class Sentences {
    private static final Path DOCUMENT = Path.of("../shared/DOC.md");
    private static final int PROMISES = 41;
    /** What names no edge: headings, the names of arguments without a range, what a method is about. */
    private static final String[] PLAIN = {
        "[A-Z ]+\\.", "\\d\\.", "- \\w+: [a-z ]+", "The constants:", "The constructor and the methods follow.*",
        "A planner and simulator for calls between services:.*", "To serve a request at a service s .* means:",
        "Time goes by in steps\\.", "Returns that number\\.", "(Returns|Changes) something about .*\\.",
    };

    private static final Map<Integer, String> SECTIONS = sections();
    private static final Map<Integer, List<String>> UNTESTED = untested();
    /** How many answers had been looked at when the latest test began: each one has to look at some. */
    private static int lookedBefore = -1;

    private Sentences() {
    }

    /** Begins the test of a sentence, which must stand in the document just so. */
    static void about(int promise, String words) {
        Expect.about("promise " + promise + ", '" + words + "'");
        Expect.yes("the test before this one looks at something", Expect.looked() > lookedBefore);
        Expect.yes("the document has these words", SECTIONS.get(promise).contains(words));
        UNTESTED.get(promise).removeIf(sentence -> sentence.contains(words) || words.contains(sentence));
        lookedBefore = Expect.looked();
    }

    static void finish() {
        Expect.about("the document");
        Expect.same("the number of promises", SECTIONS.size() - 1, PROMISES);
        for (Map.Entry<Integer, List<String>> entry : UNTESTED.entrySet()) {
            for (String sentence : entry.getValue()) {
                Expect.yes("promise " + entry.getKey() + " has a test for '" + sentence + "'", false);
            }
        }
        Expect.finish();
    }

    private static Map<Integer, String> sections() {
        Map<Integer, String> sections = new TreeMap<>();
        for (String section : read().split("(?m)^## ")) {
            String[] parts = section.split("\n", 2);
            Matcher promise = Pattern.compile("Promise (\\d+):.*").matcher(parts[0]);
            if (promise.matches()) {
                sections.put(Integer.valueOf(promise.group(1)), plain(parts[1]));
            } else if (parts[0].matches("What it is|Description")) {
                sections.merge(0, plain(parts[1]), (one, other) -> one + other);
            }
        }
        return sections;
    }

    private static Map<Integer, List<String>> untested() {
        Map<Integer, List<String>> untested = new TreeMap<>();
        for (Map.Entry<Integer, String> section : SECTIONS.entrySet()) {
            List<String> sentences = new ArrayList<>();
            for (String sentence : section.getValue().split("\n|(?<=\\.) (?=[A-Z(])")) {
                if (!sentence.isEmpty() && !isPlain(sentence)) {
                    sentences.add(sentence);
                }
            }
            untested.put(section.getKey(), sentences);
        }
        return untested;
    }

    private static boolean isPlain(String sentence) {
        for (String pattern : PLAIN) {
            if (sentence.matches(pattern)) {
                return true;
            }
        }
        return false;
    }

    /** A line for each paragraph, without the signature, the headings between methods, and the signs that mark code. */
    private static String plain(String text) {
        StringBuilder lines = new StringBuilder();
        String words = text.replaceAll("(?m)^`.*`$", "").replaceAll("(?m)^----.*$", "").replace("`", "");
        for (String paragraph : words.split("\n\\s*\n|\n(?=- |\\d\\. )")) {
            lines.append(paragraph.trim().replaceAll("\\s+", " ")).append('\n');
        }
        return lines.toString();
    }

    private static String read() {
        try {
            return Files.readString(DOCUMENT);
        } catch (IOException e) {
            throw new UncheckedIOException(e);
        }
    }
}
