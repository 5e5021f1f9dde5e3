import java.io.IOException;
import java.nio.file.Files;
import java.nio.file.Path;

/** The document's words, and which of them a test has quoted. */
final class Document {
    static final int PROMISES = 26;
    private static final Path PATH = Path.of("../shared/DOC.md");

    private final boolean here;
    private String ahead = "";
    private final String[] bodies = new String[PROMISES + 1];
    private final boolean[][] quoted = new boolean[PROMISES + 1][];

    Document() throws IOException {
        here = Files.isReadable(PATH);
        String[] sections = here ? Files.readString(PATH).split("\n## ") : new String[0];
        for (String section : sections) {
            String text = section.replaceAll("\\s+", " ").trim();
            if (text.matches("Promise \\d+: .*")) keep(text);
            else ahead += " " + text;
        }
    }

    private void keep(String text) {
        int promise = Integer.parseInt(text.substring("Promise ".length(), text.indexOf(':')));
        if (promise < 1 || promise > PROMISES) return;
        bodies[promise] = text.substring(text.indexOf(")`: ") + ")`: ".length());
        quoted[promise] = new boolean[bodies[promise].length()];
    }

    /** Without the document its words can't be looked up, but the answers can still be held against those due. */
    boolean isHere() {
        return here;
    }

    boolean hasAhead(String words) {
        return !here || ahead.contains(words);
    }

    boolean quote(int promise, String words) {
        if (!here) return true;
        if (bodies[promise] == null) return false;
        int at = bodies[promise].indexOf(words);
        boolean found = at >= 0;
        while (at >= 0) {
            for (int i = at; i < at + words.length(); i++) quoted[promise][i] = true;
            at = bodies[promise].indexOf(words, at + 1);
        }
        return found;
    }

    /** What of a promise no test has quoted; empty if all of it has been. */
    String unquoted(int promise) {
        if (!here) return "";
        if (bodies[promise] == null) return "the whole promise";
        StringBuilder rest = new StringBuilder();
        for (int i = 0; i < bodies[promise].length(); i++) {
            char c = bodies[promise].charAt(i);
            if (!quoted[promise][i] && (Character.isLetterOrDigit(c) || c == '-')) rest.append(c);
        }
        return rest.toString();
    }
}
