import java.nio.file.Files;
import java.nio.file.Path;
import java.util.Arrays;
import java.util.Set;
import java.util.TreeSet;
import java.util.regex.Matcher;
import java.util.regex.Pattern;

/** The examples of README.md answer what stands behind them, and each call of the face is told of there. */
public final class ReadmeTests {
    private static final Check CHECK = new Check();
    private static final Pattern CALL = Pattern.compile("x\\.(\\w+)\\((.*)\\); +// (.*)");

    private static int[] numbers(String arguments) {
        return Arrays.stream(arguments.split(", ")).filter(one -> !one.isEmpty())
                .mapToInt(one -> one.equals("true") ? 1 : one.equals("false") ? 0 : Integer.parseInt(one)).toArray();
    }

    private static String shown(Object answer) {
        return answer instanceof Class ? "throws " + ((Class<?>) answer).getSimpleName()
                : answer instanceof String ? "\"" + answer + "\"" : String.valueOf(answer);
    }

    private static Set<String> examples(String text) {
        Set<String> called = new TreeSet<>();
        Matcher block = Pattern.compile("(?s)```java\n(.*?)```").matcher(text);
        while (block.find()) {
            Branchmatch x = new Branchmatch();
            String[] lines = block.group(1).split("\n");
            CHECK.due("an example's first line", "Branchmatch x = new Branchmatch();", lines[0]);
            for (int k = 1; k < lines.length; k++) {
                Matcher call = CALL.matcher(lines[k]);
                CHECK.so("an example's line: " + lines[k], call.matches());
                CHECK.due(lines[k], call.group(3), shown(Calls.answer(x, call.group(1), numbers(call.group(2)))));
                called.add(call.group(1));
            }
        }
        return called;
    }

    public static void main(String[] args) throws Exception {
        String text = Files.readString(Path.of("README.md"));
        Set<String> called = examples(text);
        Set<String> all = new TreeSet<>(Arrays.asList(Calls.ACTS));
        all.addAll(Arrays.asList(Calls.ASKS));
        for (String call : all) {
            CHECK.so("told of: " + call, Pattern.compile("`" + call + "\\([a-zA-Z, ]*\\)`").matcher(text).find());
        }
        all.removeAll(called);
        CHECK.due("calls without an example", "[digest]", all.toString());
        try (var tests = Files.list(Path.of("src/test/java"))) {
            for (Path one : tests.toList()) {
                String name = one.getFileName().toString().replace(".java", "");
                CHECK.so("told of: " + name, !name.endsWith("Tests") || text.contains("`" + name + "`"));
            }
        }
        CHECK.end("ReadmeTests");
    }
}
