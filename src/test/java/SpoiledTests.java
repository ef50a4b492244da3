import java.net.URL;
import java.net.URLClassLoader;
import java.nio.file.Files;
import java.nio.file.Path;
import java.util.ArrayList;
import java.util.List;
import javax.tools.JavaCompiler;
import javax.tools.ToolProvider;

/**
 * By WHAT ALWAYS HOLDS isSound() is always so, so that no run of calls can tell it from one that looks at
 * nothing. Here copies of the program are spoiled, each so that one of the things that isSound() looks at is no
 * longer so: there it must answer false, and true as long as the fault does not show.
 */
public final class SpoiledTests {
    private static final Check CHECK = new Check();
    private static String source;

    /** The class with one text of it replaced by another one. */
    private static Class<?> spoiled(String what, String... pairs) throws Exception {
        String text = source;
        for (int k = 0; k < pairs.length; k += 2) {
            int at = text.indexOf(pairs[k]);
            if (at < 0 || text.indexOf(pairs[k], at + 1) >= 0) {
                throw new IllegalStateException("to be spoiled: " + what + ", but not once there: " + pairs[k]);
            }
            text = text.replace(pairs[k], pairs[k + 1]);
        }
        Path folder = Files.createTempDirectory("spoiled");
        Path file = folder.resolve("Branchmatch.java");
        Files.writeString(file, text);
        JavaCompiler compiler = ToolProvider.getSystemJavaCompiler();
        if (compiler.run(null, null, null, "-nowarn", "-d", folder.toString(), file.toString()) != 0) {
            throw new IllegalStateException("does not compile: " + what);
        }
        URLClassLoader loader = new URLClassLoader(
                new URL[] {folder.toUri().toURL()}, ClassLoader.getPlatformClassLoader());
        Class<?> made = loader.loadClass("Branchmatch");
        // All is loaded at once, for nothing of it may stay behind.
        for (Class<?> one : made.getDeclaredClasses()) {
            Class.forName(one.getName(), true, loader);
        }
        loader.close();
        try (var files = Files.list(folder)) {
            for (Path one : new ArrayList<>(files.toList())) {
                Files.delete(one);
            }
        }
        Files.delete(folder);
        return made;
    }

    /** "head 0 4 1 2 0" and the like. */
    private static void call(Object x, String line) throws Exception {
        String[] word = line.split(" ");
        Class<?>[] types = new Class<?>[word.length - 1];
        Object[] v = new Object[word.length - 1];
        for (int k = 1; k < word.length; k++) {
            types[k - 1] = int.class;
            v[k - 1] = Integer.parseInt(word[k]);
        }
        x.getClass().getMethod(word[0], types).invoke(x, v);
    }

    /** A due answer, then the calls ahead of it. */
    private static void sound(String what, Class<?> made, boolean due, String... lines) throws Exception {
        Object x = made.getConstructor().newInstance();
        for (String line : lines) {
            call(x, line);
        }
        CHECK.due(what + ": isSound() after " + List.of(lines), due, x.getClass().getMethod("isSound").invoke(x));
    }

    private static void madeAlike() throws Exception {
        String what = "by STEPS what is WITHIN can be made alike";
        Class<?> x = spoiled(what, "end = WITHIN;", "end = 0;");
        sound(what, x, true, "head 0 2 1 0 0", "name 1 2");
        sound(what, x, false, "head 0 2 1 0 0");
        what = "by CLASSES what is WITHIN can be made alike";
        x = spoiled(what, "return canBe && isNoneInItself();", "return canBe;");
        sound(what, x, true, "head 0 2 1 0 0", "name 1 2");
        sound(what, x, false, "head 0 2 1 0 0");
        what = "by CLASSES unlike HEADS can be made alike";
        x = spoiled(what, "if (both.letterAt(one) != both.letterAt(other)) {\n                    return false;",
                "if (both.letterAt(one) != both.letterAt(other)) {\n                    return true;");
        sound(what, x, true, "head 0 0 0 0 0", "head 1 0 0 0 0");
        sound(what, x, false, "head 0 0 0 0 0", "head 1 1 0 0 0");
        what = "by CLASSES nothing can be made alike";
        x = spoiled(what, "return canBe && isNoneInItself();", "return false;");
        sound(what, x, true, "head 0 0 0 0 0", "head 1 1 0 0 0");
        sound(what, x, false);
    }

    private static void answers() throws Exception {
        String what = "by STEPS the lesser NAME stands for the greater one";
        Class<?> x = spoiled(what, "isName(left) && left > right", "isName(left) && left < right",
                "isName(right) && right > left", "isName(right) && right < left");
        sound(what, x, true, "name 1 0");
        sound(what, x, false);
        what = "by CLASSES a NAME stands for the greatest one";
        x = spoiled(what, "both.letterAt(i) < both.letterAt(least)", "both.letterAt(i) > both.letterAt(least)");
        sound(what, x, true, "name 1 0");
        sound(what, x, false);
        what = "the ANSWER tells what NAMES stand for as it is";
        x = spoiled(what, "addUsed(both, place, end, told[n]);", "told[n].addRow(both, place, end);");
        sound(what, x, true);
        sound(what, x, false, "head 4 2 2 0 0", "head 5 4 1 4 0", "head 0 4 0 1 0", "copy 5 1");
        // P(a,b) and P(P(b,b),M(c)): both ways tell P(b,b) of a, and M(c) of b, which makes them not alike.
        sound(what, x, false, "head 4 4 1 1 0", "head 5 2 2 0 0", "head 0 4 0 1 0", "head 1 4 4 5 0");
        // As alike() would be REFUSED then, it does not matter what it would tell.
        what = "the ANSWER tells what NAMES stand for as it is, with a SIZE above 16";
        x = spoiled(what, "addUsed(both, place, end, told[n]);",
                "told[n].addRow(both, place, end); told[n].tooLong = true;");
        sound(what, x, true, "head 4 2 2 0 0", "head 5 4 1 4 0", "head 0 4 0 1 0", "copy 5 1");
        sound(what, x, true, "head 0 2 0 0 0");
        what = "the ANSWER by CLASSES alone is REFUSED";
        x = spoiled(what, "byClasses.tellInto(otherAnswer);", "byClasses.tellInto(otherAnswer); otherAnswer.told[7].tooLong = true;");
        sound(what, x, false);
        sound(what, x, true, "head 0 2 1 0 0");
        what = "the ANSWER by STEPS alone is REFUSED";
        x = spoiled(what, "byClasses.tellInto(otherAnswer);", "byClasses.tellInto(otherAnswer); spareAnswer.told[7].tooLong = true;");
        sound(what, x, false);
        sound(what, x, true, "head 0 2 1 0 0");
    }

    private static void terms() throws Exception {
        String what = "all pairs have the NAME 0 in COMMON";
        Class<?> x = spoiled(what, "return named.length() - 1;", "return 0;");
        sound(what, x, true, "head 0 2 0 0 0", "head 1 2 1 0 0");
        sound(what, x, false, "head 2 4 0 1 0", "head 1 4 1 0 0", "copy 2 0");
        what = "COMMON has a HEAD that the first one alone has";
        x = spoiled(what, "if (isHead(letter) && letter == other.letterAt(right)) {", "if (isHead(letter)) {");
        sound(what, x, true, "head 0 2 0 0 0", "head 1 2 1 0 0");
        sound(what, x, false, "head 0 0 0 0 0");
        what = "COMMON has a HEAD of the first one where the other one has another HEAD";
        sound(what, x, false, "head 0 0 0 0 0", "head 1 1 0 0 0");
        what = "made PLAIN all NAMES become the NAME 0";
        x = spoiled(what, "? Integer.bitCount(other.namesIn(0, other.firstPlaceOf(letter)))", "? 0");
        sound(what, x, true, "head 0 4 1 1 0");
        sound(what, x, false, "head 0 4 0 1 0");
        what = "made PLAIN each PLACE gets a NAME of its own";
        x = spoiled(what, "? Integer.bitCount(other.namesIn(0, other.firstPlaceOf(letter)))", "? filled");
        sound(what, x, true, "head 0 4 0 1 0");
        sound(what, x, false, "head 0 4 1 1 0");
        what = "the SHARED SIZE counts each TERM twice";
        x = spoiled(what, "unlike++;", "unlike += 2;");
        sound(what, x, false);
        what = "the SHARED SIZE of a TERM with three PARTS is above its SIZE";
        x = spoiled(what, "return unlike;", "return letterAt(0) == 17 ? filled + 1 : unlike;");
        for (int slot = 0; slot < 6; slot++) {
            sound(what, x, true, "head " + slot + " 6 0 0 0");
            sound(what, x, false, "head " + slot + " 7 0 0 0");
        }
        what = "TERMS with a SIZE above 16 are not REFUSED";
        x = spoiled(what, "private final Term spare = new Term(MOST);", "private final Term spare = new Term(2 * MOST);",
                "slots[k] = new Term(MOST);", "slots[k] = new Term(2 * MOST);");
        for (int slot = 0; slot < 6; slot++) {
            String again = "head " + slot + " 4 " + slot + " " + slot + " 0";
            sound(what, x, true, again, again, again, "head " + slot + " 2 " + slot + " 0 0");
            sound(what, x, false, again, again, again, "head " + slot + " 4 " + slot + " " + (slot + 1) % 6 + " 0");
        }
    }

    /** The last number of digest() is 0 then. */
    private static void digests() throws Exception {
        Class<?> right = spoiled("as it is");
        Class<?> wrong = spoiled("isSound() is never so", "return canBySteps == canByClasses", "return knocks < 0");
        for (int head = 0; head < 8; head++) {
            Object one = right.getConstructor().newInstance();
            Object other = wrong.getConstructor().newInstance();
            call(one, "head 0 " + head + " 0 1 2");
            call(other, "head 0 " + head + " 0 1 2");
            long digest = (Long) one.getClass().getMethod("digest").invoke(one);
            CHECK.due("digest() without isSound()", digest - 1, other.getClass().getMethod("digest").invoke(other));
        }
    }

    public static void main(String[] args) throws Exception {
        source = Files.readString(Path.of("src/main/java/Branchmatch.java"));
        sound("as it is", spoiled("as it is"), true);
        madeAlike();
        answers();
        terms();
        digests();
        CHECK.end("SpoiledTests");
    }
}
