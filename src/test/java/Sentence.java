import java.io.IOException;
import java.nio.file.Files;
import java.nio.file.Path;

/**
 * Tests that are for one sentence of the document each. The sentence is quoted with its promise, and
 * it is looked up there, so that a test names no sentence that the document does not have.
 */
final class Sentence {
    /** Stands for the part "Description", which is before all promises. */
    static final int DESCRIPTION = 0;
    private static final Path DOCUMENT = Path.of("../shared/DOC.md");
    private static final String TEXT = readDocument();

    private Sentence() {
    }

    /** Runs a script for one edge of the sentence. */
    static void holds(int promise, String quote, String edge, String... lines) {
        Script.run(name(promise, quote, edge), lines);
    }

    /** Each of the calls, made alone behind the setup, answers what is due and changes nothing. */
    static void changesNothing(int promise, String quote, String edge, String setup, String... calls) {
        String name = name(promise, quote, edge);
        Script.run(name, setup);
        for (String call : Script.steps(calls)) {
            Twins.changesNothing(name, setup, call);
        }
    }

    private static String name(int promise, String quote, String edge) {
        String place = promise == DESCRIPTION ? "Description" : "Promise " + promise;
        boolean isThere = TEXT.isEmpty() || section(place).contains(quote);
        Script.due(place + " has the sentence \"" + quote + "\"", isThere ? 1 : 0, 1);
        return place + ", \"" + quote + "\", " + edge;
    }

    private static String section(String place) {
        int start = Math.max(TEXT.indexOf("## " + place + " "), TEXT.indexOf("## " + place + ":"));
        if (start < 0) {
            return "";
        }
        int end = TEXT.indexOf(" ## ", start);
        return end < 0 ? TEXT.substring(start) : TEXT.substring(start, end);
    }

    /** The answers are tested also where the document is not at hand; the quotes then are not. */
    private static String readDocument() {
        try {
            return Files.readString(DOCUMENT).replace("`", "").replaceAll("\\s+", " ");
        } catch (IOException e) {
            System.out.println("the quotes are not looked up: " + DOCUMENT + " cannot be read");
            return "";
        }
    }
}
