import java.io.IOException;
import java.net.URL;
import java.net.URLClassLoader;
import java.nio.charset.StandardCharsets;
import java.nio.file.Files;
import java.nio.file.Path;
import java.util.ArrayList;
import java.util.List;
import java.util.TreeSet;
import java.util.regex.Matcher;
import java.util.regex.Pattern;
import java.util.stream.Stream;
import javax.tools.JavaCompiler;
import javax.tools.ToolProvider;

/** README.md: the answers that its example shows, and its tables of constants and of tests. Run in the project's folder. */
public final class ReadmeTest {
    private static final Check check = new Check("ReadmeTest");
    private static final Pattern CALL_WITH_ANSWER =
            Pattern.compile("(?:int (\\w+) = )?(memory\\.\\w+\\(.*?\\));\\s+// (?:(-?\\d+)|([A-Z_]+))(?:: .*)?");
    private static final Pattern ROW_OF_CONSTANT = Pattern.compile("\\| `([A-Z_]+)` \\| (-?\\d+) \\| .+ \\|");
    private static final Pattern ROW_OF_TEST = Pattern.compile("\\| (\\w+Test) \\| .+ \\|");

    public static void main(String[] args) throws IOException, ReflectiveOperationException {
        List<String> lines = Files.readAllLines(Path.of("README.md"), StandardCharsets.UTF_8);
        example(lines);
        constants(lines);
        tests(lines);
        check.end();
    }

    /** Compiles the example as it stands, but that each answer is put into a list beside the one that is shown. */
    private static void example(List<String> lines) throws IOException, ReflectiveOperationException {
        List<String> calls = new ArrayList<>();
        StringBuilder source = new StringBuilder("public final class Example {\n"
                + "public static void run(java.util.List<Long> answers) {\n");
        int from = lines.indexOf("```java") + 1;
        for (int i = from; i < lines.size() && !lines.get(i).equals("```"); i++) {
            source.append(answerKept(lines.get(i), calls)).append('\n');
        }
        List<Long> answers = run(source.append("}\n}\n").toString());
        check.due("the example shows calls with answers", calls.size() > 0 ? 1 : 0, 1);
        check.due("answers got and shown", answers.size(), 2L * calls.size());
        for (int i = 0; i + 1 < answers.size(); i += 2) {
            check.due(calls.get(i / 2), answers.get(i), answers.get(i + 1));
        }
    }

    private static String answerKept(String line, List<String> calls) {
        Matcher shown = CALL_WITH_ANSWER.matcher(line);
        if (!shown.matches()) {
            check.due("an answer shown in a way that this test can't read: " + line, line.matches(".*\\S.*//.*") ? 1 : 0, 0);
            return line;
        }
        calls.add(shown.group(2));
        String name = shown.group(1);
        String got = name == null ? shown.group(2) : name;
        String want = shown.group(3) == null ? "SqueezedLines." + shown.group(4) : shown.group(3);
        return (name == null ? "" : "int " + name + " = " + shown.group(2) + "; ")
                + "answers.add((long) " + got + "); answers.add((long) " + want + ");";
    }

    private static List<Long> run(String source) throws IOException, ReflectiveOperationException {
        List<Long> answers = new ArrayList<>();
        Path folder = Files.createTempDirectory("readme");
        try {
            Path file = Files.writeString(folder.resolve("Example.java"), source);
            JavaCompiler compiler = ToolProvider.getSystemJavaCompiler();
            String classes = System.getProperty("java.class.path");
            int failed = compiler.run(null, null, null, "-cp", classes, "-d", folder.toString(), file.toString());
            check.due("compiling the example", failed, 0);
            if (failed == 0) {
                try (URLClassLoader loader = new URLClassLoader(new URL[] {folder.toUri().toURL()})) {
                    loader.loadClass("Example").getMethod("run", List.class).invoke(null, answers);
                }
            }
        } finally {
            Files.deleteIfExists(folder.resolve("Example.java"));
            Files.deleteIfExists(folder.resolve("Example.class"));
            Files.deleteIfExists(folder);
        }
        return answers;
    }

    private static void constants(List<String> lines) throws ReflectiveOperationException {
        TreeSet<String> shown = new TreeSet<>();
        for (String line : lines) {
            Matcher row = ROW_OF_CONSTANT.matcher(line);
            if (row.matches()) {
                shown.add(row.group(1));
                check.due(row.group(1), SqueezedLines.class.getField(row.group(1)).getInt(null), Long.parseLong(row.group(2)));
            }
        }
        TreeSet<String> due = new TreeSet<>(List.of("NO_SUCH", "BAD_VALUE", "NOT_POSSIBLE", "LIMIT", "BAD_TEXT", "NONE"));
        check.due("the constants " + shown, shown.equals(due) ? 1 : 0, 1);
    }

    private static void tests(List<String> lines) throws IOException {
        TreeSet<String> shown = new TreeSet<>();
        for (String line : lines) {
            Matcher row = ROW_OF_TEST.matcher(line);
            if (row.matches()) {
                shown.add(row.group(1) + ".java");
            }
        }
        TreeSet<String> due = new TreeSet<>();
        try (Stream<Path> files = Files.list(Path.of("test"))) {
            files.map(file -> file.getFileName().toString()).filter(name -> name.endsWith("Test.java")).forEach(due::add);
        }
        check.due("the tests " + shown + ", there are " + due, shown.equals(due) ? 1 : 0, 1);
    }
}
