import java.util.List;
import java.util.regex.Matcher;
import java.util.regex.Pattern;

/** The four examples of the document, with the answers that are printed there. */
public final class ExamplesTest {
    private static final int HOW_MANY = 4;
    // "2. What it shows: addBridge() = 0; tick(1) = 0." The calls begin at the first name with a bracket.
    private static final Pattern EXAMPLE = Pattern.compile("([1-9])\\. (.*?): (\\w+\\(.*)\\.");

    private static final String[][] EXAMPLES = {
        {
            "addBridge() = 0; addBridge() = 1; connect(0, 0, 1, 0) = 1; addHost(0, 1) = 0;",
            "addHost(1, 1) = 1; join(1, 2) = 1; tick(1) = 1; registrar(1, 1, 2) = 1;",
            "applicant(1, 0, 2) = 0; tick(1) = 2; registrar(0, 0, 2) = 1;",
            "receivers(0, 2) = 2; tick(2) = 3; isSettled() = 1; hostApplicant(1, 2) = 2;",
            "distance(0, 1) = 2"
        },
        {
            "addBridge() = 0; addHost(0, 0) = 0; addHost(0, 1) = 1; setTimes(3, 0) = 2;",
            "join(1, 0) = 1; tick(3) = 4; leave(1, 0) = 1; tick(1) = 1;",
            "registrar(0, 1, 0) = 2; registrarTimer(0, 1, 0) = 3; receivers(0, 0) = 2;",
            "needlessCount(0, 0) = 1; tick(3) = 1; registrar(0, 1, 0) = 0;",
            "receivers(0, 0) = 0"
        },
        {
            "addBridge() = 0; addHost(0, 0) = 0; addHost(0, 1) = 1; setTimes(2, 4) = 2;",
            "join(1, 3) = 1; tick(3) = 4; setSilent(1, true) = 1; leaveAllTimer(0, 1) = 1;",
            "tick(1) = 3; registrar(0, 1, 3) = 2; hostApplicant(1, 3) = 1; tick(2) = 1;",
            "registrar(0, 1, 3) = 0; missedCount(0, 3) = 1"
        },
        {
            "addBridge() = 0; connect(0, 0, 0, 1) = -8; addBridge() = 1;",
            "connect(0, 0, 1, 4) = -1; connect(0, 0, 1, 3) = 1; connect(0, 1, 1, 0) = -8;",
            "addHost(0, 0) = -6; cut(0, 2) = -7; cut(0, 0) = 0; loseNext(0, 0) = -7;",
            "join(0, 9) = -2; tick(0) = -4"
        }
    };

    public static void main(String[] args) {
        for (int i = 0; i < HOW_MANY; i++) {
            Script.run("example " + (i + 1), EXAMPLES[i]);
        }
        if (Document.isAtHand()) {
            asPrinted();
        }
        Script.end();
    }

    /** Runs the examples as the document has them now, and looks whether the copies here still are these. */
    private static void asPrinted() {
        int found = 0;
        for (String line : Document.section("Description")) {
            Matcher example = EXAMPLE.matcher(line);
            if (example.matches() && line.contains(" = ")) {
                int number = Integer.parseInt(example.group(1));
                found++;
                Script.due("the number of a printed example", number, found);
                Script.run("printed example " + number + ", " + example.group(2), example.group(3));
                checkCopy(number, Script.steps(example.group(3)));
            }
        }
        Script.due("how many examples the document prints", found, HOW_MANY);
    }

    private static void checkCopy(int number, List<String> printed) {
        boolean isSame = number <= HOW_MANY && Script.steps(EXAMPLES[number - 1]).equals(printed);
        Script.due("example " + number + " is here as it is printed", isSame ? 1 : 0, 1);
    }
}
