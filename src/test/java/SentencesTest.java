import java.io.IOException;
import java.nio.file.DirectoryStream;
import java.nio.file.Files;
import java.nio.file.Path;
import java.util.Arrays;
import java.util.regex.Matcher;
import java.util.regex.Pattern;

/**
 * Each sentence of the document has a test of its own: the words that the tests give to Check.sentence(..) stand in
 * the document, and together they are all of its Terms and promises.
 */
public final class SentencesTest {
    private static final Path DOCUMENT = Path.of("../shared/DOC.md");
    private static final Pattern CALL = Pattern.compile("Check\\.sentence\\(((?:\\s*\\+?\\s*\"(?:[^\"\\\\]|\\\\.)*\")+)\\)");
    private static final Pattern PIECE = Pattern.compile("\"((?:[^\"\\\\]|\\\\.)*)\"");
    /** What is no sentence: headings, what a call looks like, marks, what the interface says ahead of calls. */
    private static final String[] NO_SENTENCE = {"(?m)^#.*$", "(?m)^Ahead of the calls .*$", "(?m)^```.*$",
        "`(int )?\\w+\\([\\w ,]*\\)`:", "======== \\d"};

    public static void main(String[] args) throws IOException {
        if (!Files.exists(DOCUMENT)) {
            System.out.println("no document here, so nothing to compare with");
            return;
        }
        String document = sentences(Files.readString(DOCUMENT));
        boolean[] kept = new boolean[document.length()];
        int quotes = 0;
        try (DirectoryStream<Path> files = Files.newDirectoryStream(Path.of("src/test/java"), "*.java")) {
            for (Path file : files) {
                quotes += mark(Files.readString(file), document, kept);
            }
        }
        Check.due("there are quotes", quotes > 0 ? 1 : 0, 1);
        Check.due("words without a test", withoutTest(document, kept), "");
        System.out.println(quotes + " sentences");
        Check.finish();
    }

    private static String sentences(String all) {
        int from = all.indexOf("## Terms");
        int to = all.indexOf("## Not promised");
        Check.due("the document has Terms and promises", from >= 0 && to > from ? 1 : 0, 1);
        String text = all.substring(Math.max(0, from), Math.max(Math.max(0, from), to));
        for (String mark : NO_SENTENCE) {
            text = text.replaceAll(mark, " ");
        }
        // That an object is for 512 calls stands ahead of the Terms, and is a bound all the same.
        return oneBlank(text + " An object is used for at most 512 calls after it has been made;");
    }

    private static String oneBlank(String s) {
        return s.replaceAll("\\s+", " ").trim();
    }

    /** A quote marks each place where it stands; one that stands nowhere is wrong. */
    private static int mark(String source, String document, boolean[] kept) {
        int quotes = 0;
        Matcher call = CALL.matcher(source);
        while (call.find()) {
            StringBuilder words = new StringBuilder();
            Matcher piece = PIECE.matcher(call.group(1));
            while (piece.find()) {
                words.append(piece.group(1));
            }
            String quote = oneBlank(words.toString());
            int at = document.indexOf(quote);
            Check.due("'" + quote + "' stands in the document", at >= 0 && !quote.isEmpty() ? 1 : 0, 1);
            for (; at >= 0 && !quote.isEmpty(); at = document.indexOf(quote, at + 1)) {
                Arrays.fill(kept, at, at + quote.length(), true);
            }
            quotes++;
        }
        return quotes;
    }

    private static String withoutTest(String document, boolean[] kept) {
        StringBuilder rest = new StringBuilder();
        for (int i = 0; i < kept.length; i++) {
            if (!kept[i]) {
                rest.append(document.charAt(i));
            }
        }
        return oneBlank(rest.toString());
    }
}
