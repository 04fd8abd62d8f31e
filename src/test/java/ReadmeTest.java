import java.io.IOException;
import java.lang.reflect.Method;
import java.lang.reflect.Modifier;
import java.net.URL;
import java.net.URLClassLoader;
import java.nio.file.Files;
import java.nio.file.Path;
import java.util.ArrayList;
import java.util.List;
import java.util.Set;
import java.util.TreeSet;
import java.util.regex.MatchResult;
import java.util.regex.Matcher;
import java.util.regex.Pattern;
import java.util.stream.Collectors;
import java.util.stream.Stream;
import javax.tools.ToolProvider;

/** What README.md says of the class and of the tests: its examples are compiled and run, and its tables looked up. */
public final class ReadmeTest {
    private static final Pattern EXAMPLE = Pattern.compile("(?ms)^```java\\n(.*?)^```");
    private static final Pattern CALL = Pattern.compile("(x\\.\\w+\\(.*\\)); +// (-?\\d+)\\b.*");
    private static final Pattern NAMED_ANSWER = Pattern.compile("// (-\\d): ([A-Z_]+)\\b");
    private static final Pattern CODE_ROW = Pattern.compile("(?m)^\\| `([A-Z_]+)` \\| (-?\\d+) \\|");
    private static final Pattern CALL_ROW = Pattern.compile("(?m)^\\| `(\\w+)\\(([^)]*)\\)` \\|");
    private static final Pattern TEST_ROW = Pattern.compile("(?m)^\\| `([A-Z]\\w*[a-z])` \\|");

    private ReadmeTest() {
    }

    public static void main(String[] args) throws IOException, ReflectiveOperationException {
        String readme = Files.readString(Path.of("README.md"));
        examples(readme);
        namedAnswers(readme);
        codes(readme);
        calls(readme);
        tests(readme);
        Due.end();
    }

    /** All examples are one run of calls: they are compiled as they stand there, and each answer is looked at. */
    private static void examples(String readme) throws IOException, ReflectiveOperationException {
        Due.sentence("README: the examples");
        StringBuilder helpers = new StringBuilder();
        StringBuilder body = new StringBuilder();
        List<String> calls = new ArrayList<>();
        List<Integer> wants = new ArrayList<>();
        for (String block : firstGroups(EXAMPLE, readme)) {
            if (block.startsWith("static ")) {
                helpers.append(block);
                continue;
            }
            for (String line : block.split("\n")) {
                Matcher call = CALL.matcher(line);
                if (call.matches()) {
                    body.append("a[").append(calls.size()).append("] = ").append(call.group(1)).append(";\n");
                    calls.add(call.group(1));
                    wants.add(Integer.valueOf(call.group(2)));
                } else {
                    Due.isTrue("a call tells its answer: " + line, !line.startsWith("x."));
                    body.append(line).append('\n');
                }
            }
        }
        int[] answers = run(helpers.toString(), body.toString(), calls.size());
        for (int i = 0; i < answers.length; i++) {
            Due.is(calls.get(i), answers[i], wants.get(i));
        }
        Due.isTrue("each method of the face is in an example", methods().stream().map(Method::getName)
                .allMatch(name -> calls.stream().anyMatch(call -> call.startsWith("x." + name + "("))));
    }

    private static int[] run(String helpers, String body, int calls) throws IOException, ReflectiveOperationException {
        Path folder = Files.createTempDirectory("readme");
        Path file = folder.resolve("ReadmeExample.java");
        Files.writeString(file, "public final class ReadmeExample {\n" + helpers
                + "public static int[] answers() {\nint[] a = new int[" + calls + "];\n" + body + "return a;\n}\n}\n");
        int failed = ToolProvider.getSystemJavaCompiler().run(null, null, null, "-d", folder.toString(),
                "-cp", System.getProperty("java.class.path"), file.toString());
        Due.is("javac of the examples", failed, 0);
        if (failed != 0) {
            return new int[0];
        }
        try (URLClassLoader loader = new URLClassLoader(new URL[] {folder.toUri().toURL()},
                ReadmeTest.class.getClassLoader())) {
            return (int[]) loader.loadClass("ReadmeExample").getMethod("answers").invoke(null);
        }
    }

    private static void namedAnswers(String readme) throws ReflectiveOperationException {
        Due.sentence("README: the names of errors in the examples");
        for (MatchResult named : NAMED_ANSWER.matcher(readme).results().toList()) {
            Due.is(named.group(2), ExamHalls.class.getField(named.group(2)).getInt(null),
                    Integer.parseInt(named.group(1)));
        }
    }

    private static void codes(String readme) throws ReflectiveOperationException {
        Due.sentence("README: the constants");
        List<MatchResult> rows = CODE_ROW.matcher(readme).results().toList();
        Due.is("rows", rows.size(), ExamHalls.class.getFields().length);
        for (MatchResult row : rows) {
            Due.is(row.group(1), ExamHalls.class.getField(row.group(1)).getInt(null), Integer.parseInt(row.group(2)));
        }
    }

    private static void calls(String readme) {
        Due.sentence("README: the calls, with so many arguments as they take");
        Set<String> told = CALL_ROW.matcher(readme).results().map(row -> row.group(1) + " "
                + (row.group(2).isEmpty() ? 0 : row.group(2).split(",").length)).collect(Collectors.toSet());
        Set<String> there = methods().stream().map(method -> method.getName() + " " + method.getParameterCount())
                .collect(Collectors.toSet());
        isSameSet(told, there);
    }

    private static void tests(String readme) throws IOException {
        Due.sentence("README: the files in src/test/java");
        try (Stream<Path> files = Files.list(Path.of("src/test/java"))) {
            isSameSet(Set.copyOf(firstGroups(TEST_ROW, readme)), files.map(file -> file.getFileName().toString())
                    .map(name -> name.replace(".java", "")).collect(Collectors.toSet()));
        }
    }

    private static void isSameSet(Set<String> told, Set<String> there) {
        Due.isTrue("told are " + new TreeSet<>(told) + ", there are " + new TreeSet<>(there), told.equals(there));
    }

    private static List<String> firstGroups(Pattern pattern, String text) {
        return pattern.matcher(text).results().map(found -> found.group(1)).toList();
    }

    private static List<Method> methods() {
        return Stream.of(ExamHalls.class.getDeclaredMethods())
                .filter(method -> Modifier.isPublic(method.getModifiers())).toList();
    }
}
