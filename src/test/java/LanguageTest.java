import java.nio.charset.StandardCharsets;
import java.nio.file.Files;
import java.nio.file.Path;
import java.lang.reflect.Field;
import java.lang.reflect.Method;
import java.lang.reflect.Modifier;
import java.util.Set;
import java.util.TreeSet;
import java.util.regex.Matcher;
import java.util.regex.Pattern;

/** The rules of LANGUAGE.md that words and names alone can show. */
public final class LanguageTest {
    private static final String SOURCE = "src/main/java/StormNames.java";
    private static final Set<String> FORBIDDEN = Set.of("throw", "throws", "try", "catch", "finally", "synchronized",
        "assert", "package", "interface", "var", "volatile", "transient", "native", "strictfp", "goto", "Object",
        "System.out", "Thread", "Random", "hashCode", "toString");
    private static final Set<String> FACE = Set.of("row", "set", "copy", "drop", "feed", "coast", "fault", "hours",
        "confess", "mend", "raise", "veer", "undo", "soul", "roofs", "later", "still", "bare", "list", "order", "named",
        "premium", "fits", "dropped", "owning", "drawn", "image", "restore", "kind", "as", "ask", "trace", "count",
        "status");
    private static final Set<String> CONSTANTS = Set.of("NONE", "BAD", "STATE", "FULL");
    private static final Due DUE = new Due();

    public static void main(String[] args) throws Exception {
        String text = Files.readString(Path.of(SOURCE), StandardCharsets.UTF_8);
        String code = text.replaceAll("(?s)/\\*.*?\\*/", "").replaceAll("//[^\n]*", "");
        words(code);
        imports(code);
        face();
        classesInside();
        lengths(code);
        DUE.end();
    }

    private static void words(String code) {
        Matcher words = Pattern.compile("[A-Za-z_]+").matcher(code);
        while (words.find()) {
            DUE.due("the word " + words.group(), FORBIDDEN.contains(words.group()) ? 1 : 0, 0);
        }
        DUE.due("lambdas and method references", code.contains("->") || code.contains("::") ? 1 : 0, 0);
        DUE.due("signs in constants", code.chars().allMatch(sign -> sign < 128) ? 1 : 0, 1);
    }

    private static void imports(String code) {
        Matcher imports = Pattern.compile("import +([^;]+);").matcher(code);
        while (imports.find()) {
            DUE.due("import " + imports.group(1), imports.group(1).equals("java.util.Arrays") ? 1 : 0, 1);
        }
        Matcher calls = Pattern.compile("\\b(System|Arrays|Math|Integer|Long)\\.(\\w+)").matcher(code);
        Set<String> allowed = Set.of("System.arraycopy", "Arrays.fill", "Math.min", "Math.max", "Integer.bitCount",
            "Long.bitCount");
        while (calls.find()) {
            DUE.due("call of " + calls.group(), allowed.contains(calls.group()) ? 1 : 0, 1);
        }
    }

    private static void face() {
        Set<String> methods = new TreeSet<>();
        for (Method method : StormNames.class.getDeclaredMethods()) {
            boolean isPublic = Modifier.isPublic(method.getModifiers());
            DUE.due(method + " is public or private", isPublic || Modifier.isPrivate(method.getModifiers()) ? 1 : 0, 1);
            DUE.due(method + " has a name of the face", FACE.contains(method.getName()) ? 1 : 0, isPublic ? 1 : 0);
            DUE.due(method + " has seven parameters at most", method.getParameterCount() <= 7 ? 1 : 0, 1);
            if (isPublic) {
                methods.add(method.getName());
            }
        }
        DUE.due("methods of the face", methods.size(), FACE.size());
        for (Field field : StormNames.class.getDeclaredFields()) {
            boolean isPublic = Modifier.isPublic(field.getModifiers());
            DUE.due(field + " is public", isPublic ? 1 : 0, CONSTANTS.contains(field.getName()) ? 1 : 0);
            DUE.due(field + " is private", Modifier.isPrivate(field.getModifiers()) ? 1 : 0, isPublic ? 0 : 1);
        }
        DUE.due("constructors", StormNames.class.getDeclaredConstructors().length, 1);
        DUE.due("final", Modifier.isFinal(StormNames.class.getModifiers()) ? 1 : 0, 1);
    }

    private static void classesInside() {
        Class<?>[] inside = StormNames.class.getDeclaredClasses();
        DUE.due("twelve classes at most", inside.length <= 11 ? 1 : 0, 1);
        for (Class<?> one : inside) {
            DUE.due(one + " is static", Modifier.isStatic(one.getModifiers()) ? 1 : 0, 1);
            DUE.due(one + " is not public", Modifier.isPublic(one.getModifiers()) ? 1 : 0, 0);
            for (Method method : one.getDeclaredMethods()) {
                DUE.due(method + " has a name of the face", FACE.contains(method.getName()) ? 1 : 0, 0);
            }
            for (Field field : one.getDeclaredFields()) {
                DUE.due(field + " is no static state", Modifier.isStatic(field.getModifiers()) ? 1 : 0,
                    Modifier.isStatic(field.getModifiers()) && Modifier.isFinal(field.getModifiers()) ? 1 : 0);
            }
        }
    }

    /** A method begins in column 4 or 8 with a brace at the line's end, and ends with one in the same column. */
    private static void lengths(String code) {
        Matcher methods = Pattern.compile("(?m)^( {4}| {8})(\\w[^\n;]*\\)) \\{\n(.*\n)*?\\1\\}").matcher(code);
        while (methods.find()) {
            long lines = methods.group().lines().count();
            DUE.due(methods.group(2) + " is short", lines <= 60 ? 1 : 0, 1);
        }
    }
}
