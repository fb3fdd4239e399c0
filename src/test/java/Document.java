import java.io.IOException;
import java.nio.file.Files;
import java.nio.file.Path;

/** ../shared/DOC.md, read along: each piece that is taken up must be the one that comes next, so that none is left out. */
final class Document {
    private static final int SHOWN = 80;

    private final Check check;
    /** Blanks and line ends are one blank each; null where there is no document. */
    private final String text;
    private int at;

    Document(Check check, Path path) throws IOException {
        this.check = check;
        text = Files.exists(path) ? plain(Files.readString(path)) : null;
        if (text == null) {
            System.out.println("there is no " + path + ": whether each sentence is taken up was not asked");
        }
    }

    private static String plain(String piece) {
        return piece.replaceAll("\\s+", " ").trim();
    }

    private void takeUp(String piece) {
        if (text == null) {
            return;
        }
        String wanted = plain(piece);
        while (at < text.length() && text.charAt(at) == ' ') {
            at++;
        }
        String shown = text.substring(at, Math.min(text.length(), at + SHOWN));
        check.due("the document goes on with '" + wanted + "' (it has: '" + shown + "')", text.startsWith(wanted, at));
        int found = text.indexOf(wanted, at);
        at = found < 0 ? at : found + wanted.length();
    }

    /** A sentence, or a part of one, of which the calls that follow are the test. */
    void says(String piece) {
        takeUp(piece);
    }

    /** What promises nothing: a head, a name, a frame around a text. */
    void passes(String piece) {
        takeUp(piece);
    }

    /** The head of a promise, and how the call is told. */
    void promises(int number, String head, String told) {
        takeUp("## Promise " + number + ": " + head);
        takeUp("`" + told + "`:");
    }

    void ends() {
        check.due("the document has more than was taken up", text == null || at >= text.length());
    }
}
