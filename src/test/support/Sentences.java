import java.io.IOException;
import java.nio.charset.StandardCharsets;
import java.nio.file.Files;
import java.nio.file.Path;

/**
 * Tests told by the document's own words: each one quotes what it holds the class to. A quote that the document does
 * not have is a fault of the test, and so is a word of the document, in the part that is read, that no test quotes.
 */
abstract class Sentences extends Due {
    private static final Path DOCUMENT = Path.of("../shared/DOC.md");
    private static String part = "";
    private static boolean[] quoted = new boolean[0];

    interface Test {
        void go();
    }

    /** The part of the document between two marks, without headings, signatures (another test has them) and fences. */
    static void read(String from, String to) throws IOException {
        String document = Files.readString(DOCUMENT, StandardCharsets.UTF_8);
        int start = document.indexOf(from);
        int stop = document.indexOf(to, Math.max(start, 0));
        if (start < 0 || stop < 0) {
            say("the document has no part from " + from + " to " + to);
            return;
        }
        part = document.substring(start, stop)
                .replaceAll("(?m)^#.*$", "")
                .replaceAll("(?m)^```.*$", "")
                .replaceAll("(?m)^==== \\d\\.", "")
                .replaceAll("(?m)^`[^`]*`:", "")
                .replaceAll("\\s+", " ");
        quoted = new boolean[part.length()];
    }

    static void says(String quote, Test test) {
        about = quote;
        mark(quote);
        test.go();
    }

    private static void mark(String quote) {
        for (int at = part.indexOf(quote); at >= 0; at = part.indexOf(quote, at + 1)) {
            if (!quoted[at]) {
                for (int i = 0; i < quote.length(); i++) {
                    quoted[at + i] = true;
                }
                return;
            }
        }
        say("the document does not say so (or a test has it already)");
    }

    static void noWordLeftOut() {
        about = "the document";
        StringBuilder left = new StringBuilder();
        for (int i = 0; i <= part.length(); i++) {
            if (i < part.length() && !quoted[i]) {
                left.append(part.charAt(i));
            } else if (left.length() > 0) {
                if (!left.toString().isBlank()) {
                    say("no test for \"" + left + "\"");
                }
                left.setLength(0);
            }
        }
    }
}
