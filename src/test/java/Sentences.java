import java.io.IOException;
import java.nio.file.Files;
import java.nio.file.Path;
import java.util.List;

/**
 * Binds tests to the sentences of the document: every test quotes the words that it tests, and words of a section that
 * nothing quotes are told as wrong. So a sentence without a test of its own cannot be overlooked.
 */
final class Sentences {
    private static final Path DOCUMENT = Path.of("..", "shared", "DOC.md");

    private final Checks checks;
    private final List<String> lines;
    private String heading = "";
    private String text = "";
    private boolean[] quoted = new boolean[0];

    Sentences(Checks checks) throws IOException {
        this.checks = checks;
        this.lines = Files.readAllLines(DOCUMENT);
    }

    void section(String heading) {
        end();
        this.heading = heading;
        text = textUnder(heading);
        quoted = new boolean[text.length()];
        checks.about("");
        checks.due("the section " + heading + " has words", text.isEmpty(), false);
    }

    void test(String quote, Runnable test) {
        mark(quote);
        checks.about(heading + " | " + quote);
        try {
            test.run();
        } catch (RuntimeException e) {
            // The sentences behind this one are still to be tested.
            checks.due("the test itself", e, "nothing thrown");
        }
        checks.about("");
    }

    /** For words that name nothing which an answer could show, or that are said again elsewhere. */
    void setAside(String quote) {
        mark(quote);
    }

    void end() {
        StringBuilder left = new StringBuilder();
        for (int i = 0; i < text.length(); i++) {
            boolean isWord = Character.isLetterOrDigit(text.charAt(i)) || text.charAt(i) == ' ';
            left.append(isWord && !quoted[i] ? text.charAt(i) : ' ');
        }
        checks.about("");
        checks.due("words of " + heading + " that no test quotes", left.toString().trim(), "");
        text = "";
    }

    private void mark(String quote) {
        int at = text.indexOf(quote);
        checks.due(heading + " says: " + quote, at >= 0, true);
        while (at >= 0) {
            for (int i = at; i < at + quote.length(); i++) {
                quoted[i] = true;
            }
            at = text.indexOf(quote, at + 1);
        }
    }

    private String textUnder(String heading) {
        StringBuilder words = new StringBuilder();
        boolean inside = false;
        for (String line : lines) {
            if (line.startsWith("## ")) {
                inside = line.equals("## " + heading);
            } else if (inside) {
                words.append(wordsOf(line)).append(' ');
            }
        }
        return words.toString().replaceAll(" +", " ").trim();
    }

    /** Without the signature, which FaceTest tests, and the lines that only name an argument or a group of calls. */
    private static String wordsOf(String line) {
        if (line.startsWith("Ahead of the calls ")) {
            return "";
        }
        if (line.startsWith("- `")) {
            return line.matches(".*[0-9].*") ? line.substring(line.indexOf("`: ") + 3) : "";
        }
        return line.startsWith("`") ? line.substring(line.indexOf("`: ") + 3) : line;
    }
}
