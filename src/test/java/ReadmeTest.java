import java.io.IOException;
import java.lang.reflect.Field;
import java.lang.reflect.Method;
import java.lang.reflect.Modifier;
import java.net.URL;
import java.net.URLClassLoader;
import java.nio.file.Files;
import java.nio.file.Path;
import java.util.Arrays;
import java.util.Map;
import java.util.TreeMap;
import java.util.regex.Matcher;
import java.util.regex.Pattern;
import javax.tools.ToolProvider;

/** What README.md says of the class: its example, as it stands there, and its lists of calls and of numbers. */
public final class ReadmeTest {
    /** A call of the example, and the answer that stands behind it. */
    private static final Pattern ANSWERED = Pattern.compile("(?m)^(x\\.\\w+\\([^;\n]*\\)); *// (-?\\w+): .*$");
    private static final Due DUE = new Due();

    public static void main(String[] args) throws Exception {
        String readme = Files.readString(Path.of("README.md"));
        example(readme);
        calls(readme);
        numbers(readme);
        tests(readme);
        DUE.end();
    }

    private static void example(String readme) throws Exception {
        Matcher block = Pattern.compile("(?s)```java\n(.*?)```").matcher(readme);
        DUE.due("an example", block.find() ? 1 : 0, 1);
        String code = block.group(1);
        DUE.due("calls without an answer in the example, but feed",
            (int) code.lines().filter(line -> line.startsWith("x.")).count(),
            (int) ANSWERED.matcher(code).results().count());
        int[] got = answers(code);
        Matcher calls = ANSWERED.matcher(code);
        for (int i = 0; calls.find(); i++) {
            DUE.due("example: " + calls.group(1), got[i], numberOf(calls.group(2)));
        }
    }

    private static int numberOf(String answer) throws ReflectiveOperationException {
        return answer.matches("[A-Z]+") ? StormNames.class.getField(answer).getInt(null) : Integer.parseInt(answer);
    }

    /** Compiles the example with each of its answered calls kept, and runs it. */
    private static int[] answers(String code) throws Exception {
        int most = (int) ANSWERED.matcher(code).results().count();
        String kept = ANSWERED.matcher(code).replaceAll("answers[next++] = $1;");
        String whole = "public final class Example { public static int[] answers() {\nint next = 0;\n"
            + "int[] answers = new int[" + most + "];\n" + kept + "return answers; } }\n";
        Path work = Files.createTempDirectory("readme");
        try {
            Path file = Files.writeString(work.resolve("Example.java"), whole);
            int failed = ToolProvider.getSystemJavaCompiler().run(null, null, null,
                "-cp", System.getProperty("java.class.path"), "-d", work.toString(), file.toString());
            DUE.due("compiling the example", failed, 0);
            if (failed != 0) {
                return new int[most];
            }
            try (URLClassLoader loader = new URLClassLoader(new URL[] {work.toUri().toURL()})) {
                return (int[]) loader.loadClass("Example").getMethod("answers").invoke(null);
            }
        } finally {
            clear(work);
        }
    }

    private static void clear(Path work) throws IOException {
        for (String name : new String[] {"Example.java", "Example.class"}) {
            Files.deleteIfExists(work.resolve(name));
        }
        Files.delete(work);
    }

    /** Each call of the face stands in a list, once, with as many parameters as it has. */
    private static void calls(String readme) {
        Map<String, Integer> listed = new TreeMap<>();
        Matcher rows = Pattern.compile("(?m)^\\| `(\\w+)\\(([^)]*)\\)` \\|").matcher(readme);
        while (rows.find()) {
            int parameters = rows.group(2).isEmpty() ? 0 : rows.group(2).split(",").length;
            DUE.due(rows.group(1) + " is listed already", listed.put(rows.group(1), parameters) == null ? 0 : 1, 0);
        }
        for (Method method : StormNames.class.getDeclaredMethods()) {
            if (Modifier.isPublic(method.getModifiers())) {
                Integer parameters = listed.remove(method.getName());
                DUE.due("parameters listed of " + method.getName(), parameters == null ? -1 : parameters,
                    method.getParameterCount());
            }
        }
        DUE.due("listed, but no calls: " + listed.keySet(), listed.size(), 0);
    }

    private static void numbers(String readme) throws ReflectiveOperationException {
        Map<String, Integer> listed = new TreeMap<>();
        Matcher constants = Pattern.compile("`([A-Z]+)`(?: \\||,) (-\\d+)").matcher(readme);
        while (constants.find()) {
            listed.put(constants.group(1), Integer.parseInt(constants.group(2)));
        }
        for (Field field : StormNames.class.getFields()) {
            DUE.due("the number of " + field.getName(), listed.getOrDefault(field.getName(), 0), field.getInt(null));
        }
        StormNames x = Due.coastOf("s1,1;m1,1;");
        x.row(0, 0, 1);
        x.row(1, 1, 1);
        int[] found = {x.drop(7), x.set(0, 1, 0), x.as(0, 2), x.row(0, 0, -1), x.copy(0, 0, 1, 0, 1)};
        for (int i = 0; i < found.length; i++) {
            String row = "| finding " + (i + 1) + " | " + found[i] + " |";
            DUE.due("the list has " + row, readme.contains(row) ? 1 : 0, 1);
        }
    }

    /** Each test stands in the list of tests, and no other. */
    private static void tests(String readme) {
        String[] listed = Pattern.compile("(?m)^- `(\\w+Test)`:").matcher(readme).results()
            .map(row -> row.group(1)).sorted().toArray(String[]::new);
        String[] there = Path.of("src/test/java").toFile().list((folder, name) -> name.endsWith("Test.java"));
        String[] names = Arrays.stream(there).map(name -> name.replace(".java", "")).sorted().toArray(String[]::new);
        DUE.due("tests listed " + Arrays.toString(listed) + ", there are " + Arrays.toString(names),
            Arrays.equals(listed, names) ? 1 : 0, 1);
    }
}
