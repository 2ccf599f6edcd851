import java.io.IOException;
import java.lang.reflect.Method;
import java.net.URL;
import java.net.URLClassLoader;
import java.nio.file.Files;
import java.nio.file.Path;
import java.util.ArrayList;
import java.util.List;
import java.util.regex.Matcher;
import java.util.regex.Pattern;
import java.util.stream.Stream;

/**
 * README.md's examples, run from the project's folder: they are compiled as one method, and each line that has a comment
 * must answer (or throw) what stands at the comment's beginning, up to a colon.
 */
public final class ReadmeTest {
    private static final Path README = Path.of("README.md");
    private static final Pattern BLOCK = Pattern.compile("(?ms)^```java\n(.*?)^```$");
    private static final Pattern DECLARED = Pattern.compile("\\w+ (\\w+) = .*;");
    private static final int FEWEST_EXAMPLES = 40;
    private static final String THROWS = "throws ";

    private final List<String> lines = new ArrayList<>();
    private final List<String> due = new ArrayList<>();
    private final StringBuilder code = new StringBuilder();

    public static void main(String[] args) throws Exception {
        String page = Files.readString(README);
        namesAll(page);
        new ReadmeTest().check(page);
        Expect.finish();
    }

    /** The page names each method of the class, each test, and the command that runs them. */
    private static void namesAll(String page) throws IOException {
        for (Method method : ServiceBudgets.class.getMethods()) {
            if (method.getDeclaringClass() == ServiceBudgets.class) {
                Expect.yes("README.md names " + method.getName() + "()", page.contains(method.getName() + "("));
            }
        }
        try (Stream<Path> files = Files.list(Path.of("src/test/java"))) {
            files.map(file -> file.getFileName().toString()).filter(name -> name.endsWith("Test.java")).forEach(
                    name -> Expect.yes("README.md names " + name, page.contains("`" + name.replace(".java", "`"))));
        }
        Expect.yes("README.md names the command", page.contains("\n    .ci/run\n"));
        Expect.yes("the command can be run", Files.isExecutable(Path.of(".ci/run")));
    }

    private void check(String page) throws Exception {
        Matcher block = BLOCK.matcher(page);
        while (block.find()) {
            block.group(1).lines().forEach(this::take);
        }
        List<String> got = run();
        Expect.yes("there are examples enough", due.size() >= FEWEST_EXAMPLES);
        Expect.same("the number of answers", got.size(), due.size());
        for (int k = 0; k < got.size(); k++) {
            Expect.yes(lines.get(k) + " [" + got.get(k) + "]", got.get(k).equals(due.get(k)));
        }
    }

    private void take(String line) {
        int comment = line.indexOf("// ");
        if (comment < 0) {
            code.append(line).append('\n');
            return;
        }
        String statement = line.substring(0, comment).trim();
        String answer = line.substring(comment + 3).split(": ", 2)[0];
        lines.add(line);
        due.add(answer);
        Matcher declared = DECLARED.matcher(statement);
        if (declared.matches()) {
            code.append(statement).append(" got.add(\"\" + ").append(declared.group(1)).append(");\n");
            return;
        }
        String noted = "got.add(\"\" + (" + statement.substring(0, statement.length() - 1) + "));\n";
        if (answer.startsWith(THROWS)) {
            noted = "try { " + noted + " } catch (RuntimeException e) { got.add(\"" + THROWS
                    + "\" + e.getClass().getSimpleName()); }\n";
        }
        code.append(noted);
    }

    private List<String> run() throws Exception {
        Path folder = Files.createTempDirectory("readme");
        Path source = folder.resolve("ReadmeExamples.java");
        Path compiled = folder.resolve("ReadmeExamples.class");
        List<String> got = new ArrayList<>();
        try {
            Files.writeString(source, "public final class ReadmeExamples {\n"
                    + "public static void run(java.util.List<String> got) {\n" + code + "}\n}\n");
            int exit = new ProcessBuilder("javac", "-cp", System.getProperty("java.class.path"), "-d",
                    folder.toString(), source.toString()).inheritIO().start().waitFor();
            Expect.same("the compiler's exit code", exit, 0);
            if (exit == 0) {
                try (URLClassLoader loader = new URLClassLoader(new URL[] {folder.toUri().toURL()})) {
                    loader.loadClass("ReadmeExamples").getMethod("run", List.class).invoke(null, got);
                }
            }
        } finally {
            Files.deleteIfExists(source);
            Files.deleteIfExists(compiled);
            Files.deleteIfExists(folder);
        }
        return got;
    }
}
