/**
 * Tests that are for one sentence of the document each. The sentence is quoted with its promise, and
 * it is looked up there, so that a test names no sentence that the document does not have.
 */
final class Sentence {
    /** Stands for the part "Description", which is before all promises. */
    static final int DESCRIPTION = 0;
    /** Stands for the part "What it is", the first of all. */
    static final int WHAT_IT_IS = -1;

    private Sentence() {
    }

    /** Runs a script for one edge of the sentence. */
    static void holds(int promise, String quote, String edge, String... lines) {
        Script.run(name(promise, quote, edge), lines);
    }

    /** Each of the calls, made alone behind the setup, answers what is due and changes nothing. */
    static void changesNothing(int promise, String quote, String edge, String setup, String... calls) {
        String name = name(promise, quote, edge);
        Script.run(name, setup);
        for (String call : Script.steps(calls)) {
            Twins.changesNothing(name, setup, call);
        }
    }

    private static String name(int promise, String quote, String edge) {
        String place = place(promise);
        boolean isThere = !Document.isAtHand() || textOf(place).contains(quote);
        Script.due(place + " has the sentence \"" + quote + "\"", isThere ? 1 : 0, 1);
        return place + ", \"" + quote + "\", " + edge;
    }

    private static String place(int promise) {
        return switch (promise) {
            case WHAT_IT_IS -> "What it is";
            case DESCRIPTION -> "Description";
            default -> "Promise " + promise;
        };
    }

    private static String textOf(String place) {
        return String.join(" ", Document.section(place)).replace("`", "").replaceAll("\\s+", " ");
    }
}
