import java.io.File;
import java.lang.reflect.Method;
import java.net.URL;
import java.net.URLClassLoader;
import java.nio.file.Files;
import java.nio.file.Path;
import java.util.Arrays;
import java.util.Set;
import java.util.TreeSet;
import java.util.function.Supplier;
import java.util.regex.Matcher;
import java.util.regex.Pattern;
import javax.tools.JavaCompiler;
import javax.tools.ToolProvider;

/** The examples of the document and of README.md, read from there, and what README.md says of the calls and tests. */
public final class ExamplesTest {
    private static final Path DOCUMENT = Path.of("../shared/DOC.md");
    private static final Path README = Path.of("README.md");
    private static final Path TESTS = Path.of("src/test/java");
    private static final Path BUILT = Path.of("build/readme");

    private static final String ANSWER = "-?\\d+|true|false|throws \\w+";
    /** A call of the document's examples: name, arguments, for append the characters, and the answer. */
    private static final Pattern CALL = Pattern.compile("(\\w+)\\(([-\\d, ]*)\\)(?: with (\\S+))?: (" + ANSWER + ")(?:; ?|$)");
    /** A call that README.md shows with its answer. */
    private static final Pattern SHOWN = Pattern.compile("(x\\.\\w+\\(.*\\)); *// (" + ANSWER + ")(?:: .*)?");

    private static final Checks checks = new Checks();

    public static void main(String[] args) throws Exception {
        String document = Files.readString(DOCUMENT).replaceAll("\\s+", " ");
        String readme = Files.readString(README);
        examplesOfDocument(document);
        examplesOfReadme(readme);
        callsOfReadme(document, readme);
        testsOfReadme(readme);
        checks.end();
    }

    private static void examplesOfDocument(String document) throws Exception {
        String part = document.substring(document.indexOf("Examples: each one begins"), document.indexOf("The constructor and"));
        String[] examples = part.split(" - ");
        checks.due("the document's examples", examples.length - 1, 5);
        for (int i = 1; i < examples.length; i++) {
            example(i, examples[i].strip());
        }
    }

    private static void example(int number, String example) throws Exception {
        DoacrossScheduler x = new DoacrossScheduler();
        Matcher call = CALL.matcher(example);
        int read = 0;
        while (read < example.length() && call.find(read) && call.start() == read) {
            read = call.end();
            String what = "the document's example " + number + ": " + call.group(1) + "(" + call.group(2) + ")";
            int[] arguments = call.group(2).isEmpty() ? new int[0]
                : Arrays.stream(call.group(2).split(", ")).mapToInt(Integer::parseInt).toArray();
            if (call.group(3) != null) {
                checks.due(what + " with its characters", arguments[0], Checks.packed(call.group(3), 0));
            }
            checks.due(what, Checks.answer(x, call.group(1), arguments), call.group(4).replace(' ', '.'));
        }
        checks.due("the rest of the document's example " + number, example.substring(read), "");
    }

    /** Compiles what README.md shows, so that it must be Java as it stands, and looks at each answer it tells. */
    private static void examplesOfReadme(String readme) throws Exception {
        StringBuilder code = new StringBuilder("public final class Shown {\n");
        int examples = 0;
        for (String block : readme.split("(?m)^```java\n")) {
            if (block.contains("\n```\n") && block.startsWith("static ")) {
                code.append(block, 0, block.indexOf("\n```\n")).append('\n');
            } else if (block.contains("\n```\n") && block.startsWith("DoacrossScheduler x")) {
                examples++;
                code.append("public static void example").append(examples).append("() {\n");
                code.append(looking(block.substring(0, block.indexOf("\n```\n")))).append("}\n");
            }
        }
        checks.due("the examples of README.md", examples, readme.split("(?m)^DoacrossScheduler x = ").length - 1);
        checks.due("there are some", examples > 0, true);
        play(code.append("}\n").toString(), examples);
    }

    private static String looking(String example) {
        StringBuilder code = new StringBuilder();
        for (String line : example.split("\n")) {
            Matcher shown = SHOWN.matcher(line);
            if (shown.matches()) {
                String call = shown.group(1);
                String quoted = call.replace("\\", "\\\\").replace("\"", "\\\"");
                code.append("ExamplesTest.shown(\"").append(quoted).append("\", () -> ").append(call);
                code.append(", \"").append(shown.group(2)).append("\");\n");
            } else {
                checks.due("README.md's line '" + line + "' tells an answer", line.contains("//"), false);
                code.append(line).append('\n');
            }
        }
        return code.toString();
    }

    /** Called by what README.md shows. */
    public static void shown(String call, Supplier<Object> answer, String want) {
        String got;
        try {
            got = String.valueOf(answer.get());
        } catch (RuntimeException e) {
            got = "throws " + e.getClass().getSimpleName();
        }
        checks.due("README.md's " + call, got, want);
    }

    private static void play(String code, int examples) throws Exception {
        Files.createDirectories(BUILT);
        Path file = BUILT.resolve("Shown.java");
        Files.writeString(file, code);
        JavaCompiler compiler = ToolProvider.getSystemJavaCompiler();
        int failed = compiler.run(null, null, null, "-cp", System.getProperty("java.class.path"), "-d", BUILT.toString(),
            file.toString());
        checks.due("README.md's examples compile", failed, 0);
        if (failed == 0) {
            try (URLClassLoader loader = new URLClassLoader(new URL[] {BUILT.toUri().toURL()})) {
                for (int i = 1; i <= examples; i++) {
                    Method example = loader.loadClass("Shown").getMethod("example" + i);
                    example.invoke(null);
                }
            }
        }
    }

    private static void callsOfReadme(String document, String readme) {
        Matcher promise = Pattern.compile("## Promise \\d+: (\\w+) `").matcher(document);
        int calls = 0;
        while (promise.find()) {
            calls++;
            String name = promise.group(1);
            boolean told = Pattern.compile("\\b" + name + "\\(|`" + name + "`").matcher(readme).find();
            checks.due("README.md names " + name, told, true);
        }
        checks.due("the calls of the document", calls, 30);
    }

    private static void testsOfReadme(String readme) {
        Set<String> told = new TreeSet<>();
        Matcher row = Pattern.compile("(?m)^\\| `(\\w+Test)` \\|").matcher(readme);
        while (row.find()) {
            told.add(row.group(1) + ".java");
        }
        Set<String> found = new TreeSet<>();
        for (File file : TESTS.toFile().listFiles()) {
            if (file.getName().endsWith("Test.java")) {
                found.add(file.getName());
            }
        }
        checks.due("the tests that README.md tells", told.toString(), found.toString());
        checks.due("README.md tells .ci/run", readme.contains("\n    .ci/run\n"), true);
        checks.due(".ci/run can be run", Files.isExecutable(Path.of(".ci/run")), true);
    }
}
