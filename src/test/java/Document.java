import java.io.IOException;
import java.nio.file.Files;
import java.nio.file.Path;
import java.util.BitSet;
import java.util.HashMap;
import java.util.Map;

/**
 * The document's own words: a test names the sentence that it is for, and a section of which some
 * words are named by no test is told as a failure, so that no sentence is left without one.
 */
final class Document {
    private static final Path PLACE = Path.of("../shared/DOC.md");
    private static final Map<String, String> SECTIONS = read();
    private static final Map<String, BitSet> NAMED = new HashMap<>();

    private Document() {
    }

    private static Map<String, String> read() {
        Map<String, String> found = new HashMap<>();
        try {
            for (String part : Files.readString(PLACE).split("(?m)^## ")) {
                int end = part.indexOf('\n');
                String title = part.substring(0, Math.max(end, 0)).replaceAll(":.*", "").trim();
                found.put(title, plain(part.substring(Math.max(end, 0))));
            }
        } catch (IOException e) {
            Check.holds("the document can be read: " + e, false);
        }
        return found;
    }

    /** Without signatures, fences, rulers, and the lines on how the interface is parted. */
    private static String plain(String text) {
        return text.replaceAll("(?s)Ahead of the calls.*", "")
                .replaceAll("(?m)^`[^`]*`:", "")
                .replaceAll("```(text)?|======== [0-9]", "")
                .replaceAll("\\s+", " ");
    }

    static String textOf(String section) {
        return SECTIONS.getOrDefault(section, "");
    }

    /** The tests that follow are for these words of a section. */
    static void says(String section, String words) {
        String text = textOf(section);
        BitSet named = NAMED.computeIfAbsent(section, s -> new BitSet());
        int at = placeOf(text, words, 0);
        Check.holds("the document says in '" + section + "': " + words, at >= 0);
        while (at >= 0) {
            named.set(at, at + words.length());
            at = placeOf(text, words, at + 1);
        }
        Check.isFor(section + ", '" + words + "': ");
    }

    /** Whole words alone, so that the S of a state is not found in BENDS. */
    private static int placeOf(String text, String words, int from) {
        int at = text.indexOf(words, from);
        while (at > 0 && Character.isLetterOrDigit(text.charAt(at - 1))) {
            at = text.indexOf(words, at + 1);
        }
        return at;
    }

    static void isTestedWhole(String section) {
        Check.isFor("");
        String text = textOf(section);
        BitSet named = NAMED.getOrDefault(section, new BitSet());
        StringBuilder left = new StringBuilder();
        for (int n = 0; n < text.length(); n++) {
            left.append(named.get(n) ? '\n' : text.charAt(n));
        }
        for (String words : left.toString().split("\n+")) {
            Check.holds("a test for the words of '" + section + "': " + words, !words.matches(".*[A-Za-z0-9].*"));
        }
    }
}
