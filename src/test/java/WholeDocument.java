import java.io.IOException;
import java.nio.file.DirectoryStream;
import java.nio.file.Files;
import java.nio.file.Path;
import java.util.Arrays;
import java.util.regex.Matcher;
import java.util.regex.Pattern;

/**
 * Every sentence of the document, from its terms to its last promise, is quoted by some test that holds to it: a sentence that
 * nobody thought of would stand out here.
 */
public final class WholeDocument extends CourtCheck {
    private static final Pattern QUOTE = Pattern.compile("holds\\((\\d+), ((?:\"(?:[^\"\\\\]|\\\\.)*\"\\s*\\+?\\s*)+)\\)");
    private static final Pattern TEXT = Pattern.compile("\"((?:[^\"\\\\]|\\\\.)*)\"");
    /** What is no sentence: the marks of paragraphs, the headings of promises and their signatures, which BlushCourtFace holds. */
    private static final Pattern FRAME = Pattern.compile("## Terms|```text|```|==== \\d\\.|## Promise \\d+: (?:A new object|\\w+)|`[^`]*\\)[^`]*`:");

    public static void main(String[] args) throws IOException {
        boolean[] quoted = new boolean[document().length()];
        int quotes = 0;
        try (DirectoryStream<Path> files = Files.newDirectoryStream(Path.of("src/test/java"), "*.java")) {
            for (Path file : files) {
                quotes += mark(quoted, Files.readString(file));
            }
        }
        is("quotes are found", quotes > 190, true);
        unquoted(quoted);
        promises();
        neverThrown();
        finish();
    }

    private static int mark(boolean[] quoted, String source) {
        int quotes = 0;
        Matcher quote = QUOTE.matcher(source);
        while (quote.find()) {
            StringBuilder said = new StringBuilder();
            Matcher text = TEXT.matcher(quote.group(2));
            while (text.find()) {
                said.append(text.group(1));
            }
            String words = said.toString();
            for (int at = document().indexOf(words, from(words, quote.group(1))); at >= 0; at = document().indexOf(words, at + 1)) {
                Arrays.fill(quoted, at, at + words.length(), true);
            }
            quotes++;
        }
        return quotes;
    }

    /** A word alone stands in many sentences: it is a quote of the section of its promise, and not of these. */
    private static int from(String words, String promise) {
        return words.contains(" ") ? 0 : Math.max(0, document().indexOf("## Promise " + promise + ": "));
    }

    private static void unquoted(boolean[] quoted) {
        int from = document().indexOf("## Terms");
        int to = document().indexOf("## Not promised");
        is("the terms and the promises stand in the document", from > 0 && to > from, true);
        Matcher frame = FRAME.matcher(document()).region(from, to);
        while (frame.find()) {
            Arrays.fill(quoted, frame.start(), frame.end(), true);
        }
        StringBuilder open = new StringBuilder();
        for (int i = from; i < to; i++) {
            open.append(quoted[i] ? '\n' : document().charAt(i));
        }
        for (String rest : open.toString().split("\n+")) {
            same("words that no test quotes", rest.replaceAll("[^A-Za-z0-9]", ""), "");
        }
    }

    private static void promises() {
        for (int number = 1; number <= PROMISES; number++) {
            is("promise " + number + " stands in the document", document().contains("## Promise " + number + ": "), true);
        }
        is("one more", document().contains("## Promise " + (PROMISES + 1)), false);
    }

    /** It is explained, but no call of the face throws it. */
    private static void neverThrown() throws IOException {
        String words = "IllegalStateException: it cannot be";
        holds(0, "IllegalStateException: it cannot be");
        is("told once alone", document().indexOf("IllegalStateException"), document().lastIndexOf(words));
        is("the class does not throw it", Files.readString(Path.of("src/main/java/BlushCourt.java")).contains("IllegalStateException"), false);
    }
}
