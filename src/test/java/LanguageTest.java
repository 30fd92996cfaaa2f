import java.nio.file.Files;
import java.nio.file.Path;
import java.util.regex.Matcher;
import java.util.regex.Pattern;

/** Words that LANGUAGE.md rules out, and calls of the library beyond those that the class uses. */
public final class LanguageTest {
    private static final String[] RULED_OUT = {"\\bthrow\\b", "\\btry\\b", "\\bcatch\\b", "\\bsynchronized\\b", "\\bassert\\b",
        "->", "::", "Exact\\b", "\\bpackage\\b", "\\bstatic\\s*\\{", "\\bprotected\\b", "\\bthread\\b", "\\bRandom\\b",
        "\\bSystem\\.(?!arraycopy\\b)", "\\bMath\\.(?!abs\\b|max\\b|min\\b|floorDiv\\b)", "\\bArrays\\.(?!fill\\b)",
        "\\bimport (?!java\\.util\\.Arrays;)", "\\bhashCode\\b", "\\btoString\\b", "\\bequals\\b"};

    /** So that a run of calls makes nothing, however long it is. */
    private static void newStandsInConstructorsAlone(String code) {
        Pattern header = Pattern.compile("( {4}| {8})(?! |if|for|while|switch|\\}|else)[\\w\\[\\] ]+\\(.*\\) \\{");
        Pattern constructor = Pattern.compile(" +(public )?[A-Z]\\w*\\(\\) \\{");
        String latest = "";
        for (String line : code.split("\n")) {
            if (header.matcher(line).matches()) latest = line;
            if (line.matches(".*\\bnew\\b.*")) {
                Due.holds("new in a constructor: " + line.trim(), constructor.matcher(latest).matches());
            }
        }
    }

    public static void main(String[] args) throws Exception {
        String source = Files.readString(Path.of("src/main/java/EchoSeats.java"));
        for (int n = 0; n < source.length(); n++) {
            if (source.charAt(n) > 126) Due.holds("the source has plain letters alone", false);
        }
        String code = source.replaceAll("(?s)/\\*.*?\\*/", "").replaceAll("//[^\n]*", "");
        for (String word : RULED_OUT) {
            Matcher m = Pattern.compile(word).matcher(code);
            Due.holds("no " + word, !m.find());
        }
        newStandsInConstructorsAlone(code);
        Due.end();
    }
}
