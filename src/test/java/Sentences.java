import java.io.IOException;
import java.nio.file.Files;
import java.nio.file.Path;
import java.util.Map;
import java.util.TreeMap;
import java.util.function.Supplier;
import java.util.function.ToIntFunction;
import java.util.regex.Matcher;
import java.util.regex.Pattern;

/**
 * The document's sentences, each with checks of its own. In the end no sentence of the terms and the promises may be
 * left that no test took up.
 */
final class Sentences {
    private static final int BAD = -1000001;
    private static final int TERMS = 0, PROMISES = 35;
    private static final Path DOCUMENT = Path.of("../shared/DOC.md");

    /** A call with one number that the test varies. */
    interface Call {
        int of(StormNames x, int number);
    }

    private final Due due = new Due();
    private final Map<Integer, String> left = new TreeMap<>();
    private String sentence;
    private int checks;

    Sentences() throws IOException {
        if (!Files.exists(DOCUMENT)) {
            System.out.println("no " + DOCUMENT + " here: the sentences are not compared with it");
            return;
        }
        String text = Files.readString(DOCUMENT).replaceAll("\\s+", " ");
        Matcher parts = Pattern.compile("## (Terms|Promise (\\d+)): ?[^`]*`[^`]*`: |## (Terms) ").matcher(text);
        while (parts.find()) {
            int number = parts.group(2) == null ? TERMS : Integer.parseInt(parts.group(2));
            String part = text.substring(parts.end());
            int end = part.indexOf(" ## ");
            left.put(number, end < 0 ? part : part.substring(0, end));
        }
        due.due("promises in the document", left.size(), PROMISES + 1);
        left.computeIfPresent(TERMS, (n, terms) ->
            terms.replaceAll("```(text)?|======== \\d|Ahead of the calls .*? the interface says: ---- [a-z, ]+\\.", " "));
    }

    void terms(String next) {
        begin(TERMS, next);
    }

    void promise(int number, String next) {
        begin(number, next);
    }

    private void begin(int part, String next) {
        close();
        sentence = (part == TERMS ? "terms" : "promise " + part) + ": " + next;
        checks = 0;
        if (left.isEmpty()) {
            return;
        }
        String rest = left.getOrDefault(part, "");
        int at = rest.indexOf(next);
        due.due("the document says, " + sentence, at >= 0 ? 1 : 0, 1);
        if (at >= 0) {
            left.put(part, rest.substring(0, at) + " " + rest.substring(at + next.length()));
        }
    }

    private void close() {
        if (sentence != null) {
            due.due("a check stands for <" + sentence + ">", checks > 0 ? 1 : 0, 1);
        }
    }

    void due(String call, int got, int want) {
        checks++;
        due.due("<" + sentence + "> " + call, got, want);
    }

    void same(String what, String got, String want) {
        due(what + " is <" + got + ">, due is <" + want + ">", got.equals(want) ? 1 : 0, 1);
    }

    /** The call is refused so, and leaves all as it was; a finding is then the status. */
    void refused(String told, Supplier<StormNames> scene, ToIntFunction<StormNames> call, int want) {
        StormNames x = scene.get();
        StormNames twin = scene.get();
        due(told, call.applyAsInt(x), want);
        boolean finding = want < -1000010 && want > -1000016;
        due(told + ": status", x.status(), finding ? -1000010 - want : twin.status());
        same(told + " leaves what", Seen.all(x), Seen.all(twin));
    }

    /** The least number and the most are taken; those beyond are BAD, and leave all as it was. */
    void range(String told, Supplier<StormNames> scene, int least, int most, Call call) {
        int[] within = {least, most};
        for (int number : within) {
            int answer = call.of(scene.get(), number);
            due(told + " " + number + " answers " + answer + ", so is BAD", answer == BAD ? 1 : 0, 0);
        }
        int[] beyond = {least - 1, most + 1, Integer.MIN_VALUE, Integer.MAX_VALUE};
        for (int number : beyond) {
            refused(told + " " + number, scene, x -> call.of(x, number), BAD);
        }
    }

    void end() {
        close();
        left.forEach((part, rest) -> due.due("left of part " + part + " <" + rest.trim() + ">", rest.trim().length(), 0));
        due.end();
    }
}
