import java.nio.charset.StandardCharsets;
import java.nio.file.Files;
import java.nio.file.Path;
import java.util.HashSet;
import java.util.Set;
import java.util.regex.Matcher;
import java.util.regex.Pattern;

/** Those rules of ../shared/LANGUAGE.md that the text of the program shows, as far as a plain look tells. */
public final class LanguageTests {
    private static final Check CHECK = new Check();
    private static final String[] FORBIDDEN = {
        "\\btry\\b", "\\bcatch\\b", "\\bfinally\\b", "\\bsynchronized\\b", "\\bassert\\b", "\\bpackage\\b", "->", "::",
        "\\bprotected\\b", "\\bvolatile\\b", "\\bnull\\b", "@", "\\bhashCode\\b", "\\btoString\\(\\) \\{", "Exact\\b",
        "\\bSystem\\.(?!arraycopy)", "\\bwhile \\(true\\)", "for \\(;;", "\\bstatic \\{", "\"\\s*\\+", "\\+\\s*\"",
        "\\bthrow new (?!IndexOutOfBoundsException\\(\"|IllegalArgumentException\\(\")"};

    private static void none(String what, String source, String pattern) {
        Matcher found = Pattern.compile(pattern).matcher(source);
        CHECK.due(what, "", found.find() ? found.group() : "");
    }

    private static Set<String> found(String source, String pattern) {
        Set<String> all = new HashSet<>();
        Matcher found = Pattern.compile(pattern, Pattern.MULTILINE).matcher(source);
        while (found.find()) {
            all.add(found.group(1));
        }
        return all;
    }

    private static void names(String source) {
        Set<String> face = found(source, "^    public [a-z]+ (\\w+)\\(");
        face.addAll(found(source, "^    public String (\\w+)\\("));
        Set<String> own = found(source, "^ +(?:private )?(?:static )?(?:void|int|long|boolean|char|String|Term|Answer) (\\w+)\\([^;]*\\{$");
        CHECK.due("methods of the face", 41, face.size());
        CHECK.so("methods of its own are found", own.size() > 30);
        own.retainAll(face);
        CHECK.due("own methods with a name of the face", "[]", own.toString());
        none("a field or method of the class that is neither public nor private", source,
                "(?m)^    (?!public|private|/\\*\\*|\\*|//| |\\}|$| \\*| +throws).*");
        none("a static field that is not final", source, "(?m)^ +private static (?!final|\\w+(\\[\\])? \\w+\\().*");
    }

    private static void lengths(String source) {
        int length = 0;
        for (String line : source.split("\n")) {
            boolean isStart = line.matches(" {4,8}\\S.*\\) (throws .*)?\\{") || line.matches(" {12}throws .*\\{");
            length = isStart ? 0 : length + 1;
            CHECK.so("a method is short where it has: " + line, length <= 60);
            if (line.matches(" {4,8}\\}")) {
                length = 0;
            }
        }
    }

    public static void main(String[] args) throws Exception {
        Path path = Path.of("src/main/java/Branchmatch.java");
        String source = Files.readString(path, StandardCharsets.US_ASCII);
        none("a tab", source, "\t");
        String code = source.replaceAll("(?s)/\\*.*?\\*/", "").replaceAll("//[^\n]*", "");
        for (String pattern : FORBIDDEN) {
            none("rule against " + pattern, code, pattern);
        }
        CHECK.due("imports", "[java.util.Arrays]", found(code, "^import ([^;]*);").toString());
        CHECK.so("few classes", found(code, "class (\\w+)").size() <= 12);
        names(code);
        lengths(code);
        CHECK.end("LanguageTests");
    }
}
