import java.lang.reflect.Field;
import java.lang.reflect.Method;
import java.lang.reflect.Modifier;
import java.nio.file.Files;
import java.nio.file.Path;
import java.util.regex.Matcher;
import java.util.regex.Pattern;

/** Words that LANGUAGE.md rules out, calls of the library beyond those that the class uses, and limits. */
public final class LanguageTest {
    private static final String[] RULED_OUT = {"\\bthrow\\b", "\\btry\\b", "\\bcatch\\b", "\\bsynchronized\\b", "\\bassert\\b",
        "->", "::", "Exact\\b", "\\bpackage\\b", "\\bstatic\\s*\\{", "\\bprotected\\b", "\\bthread\\b", "\\bRandom\\b",
        "\\bSystem\\.(?!arraycopy\\b)", "\\bMath\\.(?!abs\\b|max\\b|min\\b|floorDiv\\b)", "\\bArrays\\.(?!fill\\b)",
        "\\bimport (?!java\\.util\\.Arrays;)", "\\bhashCode\\b", "\\btoString\\b", "\\bequals\\b"};

    /** So that a run of calls makes nothing, however long it is. */
    private static void newStandsInConstructorsAlone(String code) {
        Pattern header = Pattern.compile("( {4}| {8})(?! |if|for|while|switch|\\}|else)[\\w\\[\\] ]+\\(.*\\) \\{");
        Pattern constructor = Pattern.compile(" +(public )?[A-Z]\\w*\\(\\) \\{");
        String latest = "";
        for (String line : code.split("\n")) {
            if (header.matcher(line).matches()) latest = line;
            if (line.matches(".*\\bnew\\b.*")) {
                Due.holds("new in a constructor: " + line.trim(), constructor.matcher(latest).matches());
            }
        }
    }

    /** Rules 2, 5, 11. */
    private static void keepsLimits(Class<?> kind) {
        int fields = 0;
        for (Field f : kind.getDeclaredFields()) {
            boolean isStatic = Modifier.isStatic(f.getModifiers());
            Due.holds(f + ": what is static is a constant of int", !isStatic || Modifier.isFinal(f.getModifiers()) && f.getType() == int.class);
            if (!isStatic) fields++;
        }
        Due.holds(kind + " has twenty fields at most", fields <= 20);
        for (Method m : kind.getDeclaredMethods()) {
            Due.holds(m + " takes seven numbers at most", m.getParameterCount() <= 7);
        }
        for (Class<?> inside : kind.getDeclaredClasses()) {
            Due.holds(inside + " is named and static", Modifier.isStatic(inside.getModifiers()));
            keepsLimits(inside);
        }
        Due.holds("twelve classes at most", kind.getDeclaredClasses().length < 12);
    }

    public static void main(String[] args) throws Exception {
        String source = Files.readString(Path.of("src/main/java/EchoSeats.java"));
        for (int n = 0; n < source.length(); n++) {
            if (source.charAt(n) > 126) Due.holds("the source has plain letters alone", false);
        }
        String code = source.replaceAll("(?s)/\\*.*?\\*/", "").replaceAll("//[^\n]*", "");
        for (String word : RULED_OUT) {
            Matcher m = Pattern.compile(word).matcher(code);
            Due.holds("no " + word, !m.find());
        }
        newStandsInConstructorsAlone(code);
        keepsLimits(EchoSeats.class);
        Due.end();
    }
}
