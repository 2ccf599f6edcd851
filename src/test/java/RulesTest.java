import java.io.IOException;
import java.nio.file.Files;
import java.nio.file.Path;
import java.util.Arrays;
import java.util.List;
import java.util.Set;
import java.util.regex.Matcher;
import java.util.regex.Pattern;

/** What can be seen of ../shared/LANGUAGE.md in the text of the class, run from the project's folder. */
public final class RulesTest {
    private static final Path SOURCE = Path.of("src/main/java/ServiceBudgets.java");
    private static final int MOST_LINES = 60;
    private static final int MOST_PARAMETERS = 7;
    private static final int MOST_CLASSES = 12;
    private static final String[] FORBIDDEN = {"import ", "package ", "try", "catch", "finally", "synchronized",
        "assert", "->", "::", "Exact", "@", "hashCode", "toString", "instanceof", "static {", "record ", "Random",
        "System.nanoTime", "System.currentTimeMillis", "Float.", "Double.", "MAX_VALUE", "MIN_VALUE"};
    private static final Set<String> LIBRARY = Set.of("Math.min", "Math.max", "Integer.bitCount", "System.arraycopy");
    private static final Set<String> THROWN = Set.of("IndexOutOfBoundsException", "IllegalArgumentException",
        "IllegalStateException");

    public static void main(String[] args) throws IOException {
        String text = Files.readString(SOURCE);
        text.chars().forEach(sign -> Expect.yes("a plain sign: " + sign, sign == '\n' || sign >= 32 && sign < 127));
        String code = text.replaceAll("(?s)/\\*.*?\\*/", "").replaceAll("//[^\n]*", "");
        for (String word : FORBIDDEN) {
            Pattern pattern = Pattern.compile("(?<![A-Za-z_])" + Pattern.quote(word) + "(?![A-Z_a-z])|"
                    + (Character.isLetter(word.charAt(0)) ? "(?!)" : Pattern.quote(word)));
            Expect.no("the code has " + word, pattern.matcher(code).find());
        }
        each(code, "\\b(?:Math|Integer|Long|System|String|Arrays)\\.\\w+", LIBRARY);
        each(code, "(?<=throw new )\\w+", THROWN);
        Expect.yes("few classes", count(code, "\\bclass \\w+") <= MOST_CLASSES);
        Expect.yes("one public class", count(code, "public (final )?class") == 1);
        parameters(code);
        lengths(Arrays.asList(code.split("\n")));
        Expect.finish();
    }

    private static void each(String code, String pattern, Set<String> allowed) {
        Matcher matcher = Pattern.compile(pattern).matcher(code);
        while (matcher.find()) {
            Expect.yes(matcher.group() + " is allowed", allowed.contains(matcher.group()));
        }
    }

    private static int count(String code, String pattern) {
        return (int) Pattern.compile(pattern).matcher(code).results().count();
    }

    private static void parameters(String code) {
        Matcher matcher = Pattern.compile("\\w+ (\\w+)\\(((?:\\w+(?:\\[\\])* \\w+(?:, )?)+)\\)").matcher(code);
        int seen = 0;
        while (matcher.find()) {
            seen++;
            int parameters = matcher.group(2).split(",").length;
            Expect.yes(matcher.group(1) + " has few parameters", parameters <= MOST_PARAMETERS);
        }
        Expect.yes("methods were seen", seen > 50);
    }

    /** A method begins with a line that ends with "{" and ends with a "}" in the same column. */
    private static void lengths(List<String> lines) {
        Pattern begin = Pattern.compile("^( {4}| {8})(?!return|if|for|while|switch)\\S.*\\) ?(?:throws .*)?\\{$");
        for (int at = 0; at < lines.size(); at++) {
            Matcher matcher = begin.matcher(lines.get(at));
            if (!matcher.find()) {
                continue;
            }
            int end = at;
            while (end < lines.size() && !lines.get(end).equals(matcher.group(1) + "}")) {
                end++;
            }
            Expect.yes(lines.get(at).trim() + " is short", end - at <= MOST_LINES);
        }
    }
}
