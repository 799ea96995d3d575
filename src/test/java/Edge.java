import java.io.IOException;
import java.nio.file.Files;
import java.nio.file.Path;
import java.util.BitSet;

/**
 * Tests of single sentences of the document. Each sentence is quoted: it must stand where the
 * test says and must have been asked for at least once; and no word of a promise, or of the
 * terms, may stand outside all quotes.
 */
final class Edge {
    static final int TERMS = 0;
    private static final int PROMISES = 46;
    private static final Path DOCUMENT = Path.of("../shared/DOC.md");

    private final Bench bench = new Bench("EdgeTests");
    private final String[] sections = new String[PROMISES + 1];
    private final BitSet[] quoted = new BitSet[PROMISES + 1];
    private String sentence = "";
    private int promise = TERMS;
    private int asked = 1;
    private int sentences = 0;

    Edge() throws IOException {
        String document = Files.readString(DOCUMENT);
        sections[TERMS] = between(document, "## Terms\n", "Ahead of the calls");
        for (int n = 1; n <= PROMISES; n++) {
            String whole = between(document, "## Promise " + n + ": ", n < PROMISES ? "## Promise " + (n + 1) + ":" : "## Not promised");
            int signature = whole.indexOf("`: ");
            sections[n] = signature < 0 ? "" : whole.substring(signature + 3);
        }
        for (int n = 0; n <= PROMISES; n++) {
            quoted[n] = new BitSet();
            bench.due("section " + n + " was found", sections[n].isEmpty() ? 0 : 1, 1);
        }
    }

    private static String between(String document, String from, String to) {
        int start = document.indexOf(from);
        int end = document.indexOf(to, start + from.length());
        return start < 0 || end < 0 ? "" : plain(document.substring(start + from.length(), end));
    }

    private static String plain(String text) {
        return text.replace("```text", " ").replace("```", " ").replaceAll("\\s+", " ").trim();
    }

    /** Begins the test of a sentence of a promise, or of the terms. */
    void says(int number, String words) {
        endSentence();
        promise = number;
        sentence = plain(words);
        asked = 0;
        sentences++;
        int at = sections[number].indexOf(sentence);
        if (at < 0) {
            bench.due(name() + " stands in the document", 0, 1);
        }
        while (at >= 0) {
            quoted[number].set(at, at + sentence.length());
            at = sections[number].indexOf(sentence, at + 1);
        }
    }

    private String name() {
        return (promise == TERMS ? "terms" : "promise " + promise) + " '" + sentence + "'";
    }

    private void endSentence() {
        if (asked == 0) {
            bench.due(name() + " is tested", 0, 1);
        }
    }

    void due(String call, long got, long want) {
        asked++;
        bench.due(name() + ": " + call, got, want);
    }

    void holds(String what, boolean holds) {
        due(what, holds ? 1 : 0, 1);
    }

    private void lookForRest() {
        for (int n = 0; n <= PROMISES; n++) {
            StringBuilder rest = new StringBuilder();
            for (int i = 0; i < sections[n].length(); i++) {
                rest.append(quoted[n].get(i) ? '\0' : sections[n].charAt(i));
            }
            for (String piece : rest.toString().split("\0+")) {
                if (piece.chars().anyMatch(Character::isLetterOrDigit)) {
                    bench.due("a test of section " + n + " quotes '" + piece + "'", 0, 1);
                }
            }
        }
    }

    void end() {
        endSentence();
        lookForRest();
        System.out.println("EdgeTests: " + sentences + " sentences");
        bench.end();
    }
}
