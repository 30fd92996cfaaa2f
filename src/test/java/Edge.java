import java.io.IOException;
import java.nio.file.Files;
import java.nio.file.Path;
import java.util.ArrayList;
import java.util.List;

/** Ties a test to the sentence of the document that it is for, and finds the sentences that have none. */
final class Edge {
    private static final String WORDS = words();
    private static final boolean[] HAS_TEST = new boolean[WORDS.length()];

    private Edge() { }

    /** Empty, if the document isn't there: then the tests run without it. */
    private static String words() {
        Path doc = Path.of("../shared/DOC.md");
        if (!Files.isReadable(doc)) {
            System.out.println("there is no " + doc + ": sentences are not looked up in it");
            return "";
        }
        try {
            String all = Files.readString(doc);
            return plain(all.substring(all.indexOf("## Terms"), all.indexOf("## Not promised")));
        } catch (IOException e) {
            throw new IllegalStateException(e);
        }
    }

    /** Without headings, signatures and what the interface says ahead of its calls; one blank between words. */
    private static String plain(String text) {
        return text.replaceAll("(?m)^(#|```|Ahead of the calls).*$", "")
                .replaceAll("(?m)^`[^`]*`: ", "")
                .replaceAll("={8} [0-9]", "")
                .replaceAll("\\s+", " ");
    }

    static void of(String sentence, Runnable test) {
        Due.under(sentence);
        mark(sentence);
        int before = Due.compared();
        test.run();
        Due.holds("the test compares answers", Due.compared() > before);
        Due.under("");
    }

    private static void mark(String sentence) {
        if (WORDS.isEmpty()) return;
        int at = WORDS.indexOf(sentence);
        Due.holds("the sentence stands in the document", at >= 0);
        for (; at >= 0; at = WORDS.indexOf(sentence, at + 1)) {
            for (int n = 0; n < sentence.length(); n++) HAS_TEST[at + n] = true;
        }
    }

    /** Words of the terms and the promises that no test was tied to. */
    static List<String> without() {
        List<String> left = new ArrayList<>();
        StringBuilder run = new StringBuilder();
        for (int n = 0; n <= WORDS.length(); n++) {
            if (n < WORDS.length() && !HAS_TEST[n]) {
                run.append(WORDS.charAt(n));
            } else {
                if (!run.toString().isBlank()) left.add(run.toString().trim());
                run.setLength(0);
            }
        }
        return left;
    }
}
