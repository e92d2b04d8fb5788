import java.io.IOException;
import java.nio.file.Files;
import java.nio.file.Path;
import java.util.BitSet;

/** The document's sentences: which one a test is about, and which ones have none. */
final class Doc {
    private static final int PROMISES = 33;
    // Part 0 is the Terms, part n is Promise n.
    private static final String[] PARTS = new String[PROMISES + 1];
    private static final BitSet[] TESTED = new BitSet[PROMISES + 1];
    private static int askedBefore;

    private Doc() {
    }

    static void read() throws IOException {
        String text = Files.readString(Path.of(System.getProperty("toffee.doc", "../shared/DOC.md")));
        for (int part = 0; part <= PROMISES; part++) {
            int from = text.indexOf(part == 0 ? "## Terms" : "## Promise " + part + ":");
            int to = text.indexOf("\n## ", from);
            if (from < 0 || to < 0) {
                throw new IOException("no part " + part);
            }
            PARTS[part] = text.substring(text.indexOf('\n', from), to).replaceAll("```(text)?|==== I+\\.", "")
                    .replaceAll("\\s+", " ").strip();
            TESTED[part] = new BitSet();
        }
    }

    /** What follows is about these words of the Terms. */
    static void terms(String words) {
        begin(0, words);
    }

    static void promise(int n, String words) {
        begin(n, words);
    }

    private static void begin(int part, String words) {
        close();
        int at = PARTS[part].indexOf(words);
        Due.about = (part == 0 ? "Terms" : "Promise " + part) + ", \"" + words + "\": ";
        Due.due("its place in the document", at < 0 ? 1 : 0, 0);
        TESTED[part].set(Math.max(0, at), Math.max(0, at) + words.length());
        askedBefore = Due.asked();
    }

    private static void close() {
        if (!Due.about.isEmpty() && Due.asked() == askedBefore) {
            Due.due("answers asked", 0, 1);
        }
    }

    /** Each sentence, and what stands between semicolons, has a test. */
    static void end() {
        close();
        Due.about = "";
        for (int part = 0; part <= PROMISES; part++) {
            int at = 0;
            for (String sentence : PARTS[part].split("(?<=[.;]) ")) {
                int tested = TESTED[part].get(at, at + sentence.length()).cardinality();
                Due.due("part " + part + ", tests of '" + sentence + "'", Math.min(1, tested), 1);
                at += sentence.length() + 1;
            }
        }
    }
}
