import java.io.IOException;
import java.nio.file.Files;
import java.nio.file.Path;

/** The document, so that a test can be held to the words that it quotes. */
final class Document {
    private static final Path FILE = Path.of("..", "shared", "DOC.md");

    private final String text;

    Document() throws IOException {
        text = plain(Files.readString(FILE));
    }

    boolean says(String of, String words) {
        return section(of).contains(plain(words));
    }

    /** The terms are numbered from 1, but the first number stands at the end of the heading ahead of them. */
    private String section(String of) {
        if (of.equals("==== 1.")) {
            return between("## Terms", "==== 2.");
        }
        if (of.equals("==== 6.")) {
            return between("==== 6.", "## Promise 1:");
        }
        if (of.startsWith("==== ")) {
            return between(of, "==== " + (of.charAt(5) - '0' + 1) + ".");
        }
        return between("## " + of + (of.startsWith("Promise ") ? ":" : ""), "## ");
    }

    private String between(String first, String last) {
        int from = text.indexOf(first);
        if (from < 0) {
            return "";
        }
        int to = text.indexOf(last, from + first.length());
        return text.substring(from, to < 0 ? text.length() : to);
    }

    private static String plain(String words) {
        return words.replaceAll("\\s+", " ").trim();
    }
}
