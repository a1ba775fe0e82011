import java.io.IOException;
import java.nio.file.Files;
import java.nio.file.Path;
import java.util.BitSet;

/** The words of ../shared/DOC.md that promise something, and which of them a test has quoted. */
final class Document {
    private final String text;
    private final BitSet quoted = new BitSet();

    private Document(String text) {
        this.text = text;
    }

    /**
     * The document without its headings, fences, marks of parts, signatures and lines on the interface. Where it is
     * not at hand the class is still tested, only the quotes are not.
     */
    static Document read() throws IOException {
        Path path = Path.of("../shared/DOC.md");
        if (!Files.isReadable(path)) {
            System.out.println("EdgesTest: no ../shared/DOC.md here, so quotes are taken as they are");
            return new Document(null);
        }
        String all = Files.readString(path);
        String use = all.substring(all.indexOf("An object is used"), all.indexOf("## The public face"));
        String rest = all.substring(all.indexOf("## Terms"), all.indexOf("## Not promised"));
        String words = (use + rest).replaceAll("(?m)^#.*$", "").replaceAll("(?m)^```.*$", "")
            .replaceAll("(?m)^Ahead of the calls .*$", "").replaceAll("==== \\d\\. ", "")
            .replaceAll("(?m)^`[^`]*`: ", "");
        return new Document(words.replaceAll("\\s+", " ").strip());
    }

    /** Marks the words wherever they stand; whether they do. */
    boolean quote(String words) {
        if (text == null) {
            return true;
        }
        boolean any = false;
        for (int at = text.indexOf(words); at >= 0; at = text.indexOf(words, at + 1)) {
            quoted.set(at, at + words.length());
            any = true;
        }
        return any;
    }

    /** The first words that no test has quoted, or an empty text. */
    String unquoted() {
        if (text == null) {
            return "";
        }
        for (int at = quoted.nextClearBit(0); at < text.length(); at = quoted.nextClearBit(at + 1)) {
            if (text.charAt(at) != ' ') {
                int end = quoted.nextSetBit(at);
                return text.substring(at, end < 0 ? text.length() : end);
            }
        }
        return "";
    }
}
