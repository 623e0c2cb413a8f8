import java.io.IOException;
import java.nio.file.Files;
import java.nio.file.Path;
import java.util.ArrayList;
import java.util.List;

/** The text of ../shared/DOC.md, in which tests look up what they quote. */
final class Document {
    private static final Path PLACE = Path.of("../shared/DOC.md");
    private static final List<String> LINES = read();

    private Document() {
    }

    /** Answers are tested also where the document is not at hand; what is quoted of it then is not. */
    static boolean isAtHand() {
        return !LINES.isEmpty();
    }

    /** The lines below a heading, which may be named without what stands behind its colon. */
    static List<String> section(String heading) {
        List<String> found = new ArrayList<>();
        boolean isInside = false;
        for (String line : LINES) {
            if (line.startsWith("## ")) {
                isInside = line.equals("## " + heading) || line.startsWith("## " + heading + ":");
            } else if (isInside) {
                found.add(line);
            }
        }
        return found;
    }

    private static List<String> read() {
        try {
            return Files.readAllLines(PLACE);
        } catch (IOException e) {
            System.out.println("the quotes are not looked up: " + PLACE + " cannot be read");
            return List.of();
        }
    }
}
