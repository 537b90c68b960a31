import java.io.IOException;
import java.lang.reflect.Field;
import java.lang.reflect.Method;
import java.lang.reflect.Modifier;
import java.nio.file.Files;
import java.nio.file.Path;
import java.util.regex.Matcher;
import java.util.regex.Pattern;

/** Those rules of LANGUAGE.md that the text of the program, or its class, shows by itself. */
public final class LanguageTest {
    private static final Path PROGRAM = Path.of("src", "main", "java", "HashedStore.java");
    // Rules 2, 6, 10 and 13: what the program has no need of, and mostly may not have.
    private static final String[] UNUSED = {
        "package", "protected", "synchronized", "assert", "finally", "try", "catch", "throw", "throws",
        "native", "transient", "volatile", "Thread", "Random", "Object", "equals", "hashCode", "toString"};
    private static final String[] LIBRARY = {
        "Arrays.fill", "Math.max", "Math.min", "System.arraycopy", "java.util", "util.Arrays"};

    private LanguageTest() {
    }

    public static void main(String[] args) throws IOException {
        String code = withoutComments(Files.readString(PROGRAM));
        checkUnusedWords(code);
        checkLibrary(code);
        checkWhereObjectsAreMade(code);
        checkMethodLengths(code);
        checkCounts();
        Check.finish();
    }

    private static String withoutComments(String text) {
        return text.replaceAll("(?s)/\\*.*?\\*/", "").replaceAll("//[^\n]*", "");
    }

    private static int count(String code, String pattern) {
        Matcher matcher = Pattern.compile(pattern).matcher(code);
        int found = 0;
        while (matcher.find()) {
            found++;
        }
        return found;
    }

    private static void checkUnusedWords(String code) {
        for (String word : UNUSED) {
            Check.due("times that the program says " + word, count(code, "\\b" + word + "\\b"), 0);
        }
        Check.due("rule 2: lambdas and method references", count(code, "->|::"), 0);
        Check.due("rule 10: texts", count(code, "\""), 0);
    }

    private static void checkLibrary(String code) {
        Check.due("rule 4: imports", count(code, "\\bimport\\b"), 1);
        Matcher uses = Pattern.compile("\\b[A-Za-z]\\w*\\.[A-Za-z]\\w*").matcher(code);
        while (uses.find()) {
            boolean known = uses.group().endsWith(".length");
            for (String allowed : LIBRARY) {
                known |= uses.group().equals(allowed);
            }
            Check.due("rule 4: may use " + uses.group(), known, true);
        }
    }

    /** All calls of a run share one room, so only the constructor makes anything. */
    private static void checkWhereObjectsAreMade(String code) {
        int start = code.indexOf("public HashedStore(");
        int end = code.indexOf("\n    }", start);
        Check.due("rule 12: arrays made by the constructor", count(code.substring(start, end), "\\bnew\\b"), 2);
        Check.due("rule 12: made in all", count(code, "\\bnew\\b"), 2);
    }

    private static void checkMethodLengths(String code) {
        Matcher body = Pattern.compile("(?s)\n    [^\n ][^\n;]*\\{\n.*?\n    \\}").matcher(code);
        int bodies = 0;
        while (body.find()) {
            bodies++;
            Check.due("rule 11: at most sixty lines:" + body.group().split("\\{")[0],
                count(body.group(), "\n") <= 60, true);
        }
        Check.due("rule 11: every method was looked at", bodies,
            HashedStore.class.getDeclaredMethods().length + 1);
    }

    private static void checkCounts() {
        int fields = 0;
        for (Field f : HashedStore.class.getDeclaredFields()) {
            fields += Modifier.isStatic(f.getModifiers()) ? 0 : 1;
        }
        Check.due("rule 11: at most twenty fields", fields <= 20, true);
        for (Method m : HashedStore.class.getDeclaredMethods()) {
            Check.due("rule 11: at most seven parameters: " + m.getName(), m.getParameterCount() <= 7, true);
        }
        Check.due("rule 2: classes inside", HashedStore.class.getDeclaredClasses().length, 0);
    }
}
