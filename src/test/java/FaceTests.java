import java.lang.reflect.Constructor;
import java.lang.reflect.Field;
import java.lang.reflect.Method;
import java.lang.reflect.Modifier;
import java.nio.file.Files;
import java.nio.file.Path;
import java.util.Set;
import java.util.StringJoiner;
import java.util.TreeSet;
import java.util.regex.Matcher;
import java.util.regex.Pattern;

/** The public face: each signature as the document has it, and nothing besides. */
public final class FaceTests {
    private static final Check CHECK = new Check();

    private static String document() throws Exception {
        return Files.readString(Path.of("../shared/DOC.md"));
    }

    /** Without the names of parameters: "public int name(int, int) throws ...". */
    private static String bare(String signature) {
        return signature.trim().replaceAll("(int|boolean) \\w+(?=[,)])", "$1");
    }

    private static Set<String> inTheDocument() throws Exception {
        Matcher block = Pattern.compile("(?s)```java\n(.*?)```").matcher(document());
        Set<String> all = new TreeSet<>();
        if (block.find()) {
            for (String line : block.group(1).split("\n")) {
                if (line.startsWith("    ")) {
                    all.add(bare(line.replace(";", "")));
                }
            }
        }
        return all;
    }

    private static String thrown(Class<?>[] exceptions) {
        StringJoiner all = new StringJoiner(", ", " throws ", "").setEmptyValue("");
        for (Class<?> one : exceptions) {
            all.add(one.getSimpleName());
        }
        return all.toString();
    }

    private static String parameters(Class<?>[] types) {
        StringJoiner all = new StringJoiner(", ", "(", ")");
        for (Class<?> one : types) {
            all.add(one.getSimpleName());
        }
        return all.toString();
    }

    private static Set<String> inTheClass() {
        Set<String> all = new TreeSet<>();
        for (Constructor<?> one : Branchmatch.class.getDeclaredConstructors()) {
            if (!Modifier.isPrivate(one.getModifiers())) {
                all.add((Modifier.toString(one.getModifiers()) + " Branchmatch" + parameters(one.getParameterTypes())
                        + thrown(one.getExceptionTypes())).trim());
            }
        }
        for (Method one : Branchmatch.class.getDeclaredMethods()) {
            if (!Modifier.isPrivate(one.getModifiers()) && !one.isSynthetic()) {
                all.add((Modifier.toString(one.getModifiers()) + " " + one.getReturnType().getSimpleName() + " "
                        + one.getName() + parameters(one.getParameterTypes()) + thrown(one.getExceptionTypes())).trim());
            }
        }
        return all;
    }

    /** The headings' own signatures are those of the block, a promise each. */
    private static void promises(Set<String> face) throws Exception {
        Matcher found = Pattern.compile("(?m)^## Promise (\\d+): (.*)\n\n`(.*)`$").matcher(document());
        int count = 0;
        while (found.find()) {
            count++;
            CHECK.due("the promises are numbered on", String.valueOf(count), found.group(1));
            CHECK.so("the face has promise " + count, face.contains("public " + bare(found.group(3))));
        }
        CHECK.due("promises", 42, count);
        CHECK.due("members of the face", 42, face.size());
    }

    public static void main(String[] args) throws Exception {
        Set<String> face = inTheDocument();
        promises(face);
        CHECK.due("the face", String.join("\n", face), String.join("\n", inTheClass()));
        CHECK.due("the class", "public final", Modifier.toString(Branchmatch.class.getModifiers()));
        CHECK.due("it is no class below another one", Object.class, Branchmatch.class.getSuperclass());
        CHECK.due("interfaces", 0, Branchmatch.class.getInterfaces().length);
        CHECK.so("it has no package", Branchmatch.class.getPackageName().isEmpty());
        for (Field one : Branchmatch.class.getDeclaredFields()) {
            CHECK.so("private: " + one.getName(), Modifier.isPrivate(one.getModifiers()) || one.isSynthetic());
        }
        for (Class<?> one : Branchmatch.class.getDeclaredClasses()) {
            CHECK.so("a static class inside: " + one.getName(), Modifier.isStatic(one.getModifiers())
                    && !Modifier.isPublic(one.getModifiers()) && !Modifier.isProtected(one.getModifiers()));
        }
        CHECK.end("FaceTests");
    }
}
