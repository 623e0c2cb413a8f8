/** The boundary cases that the document names for "Delivery." and for promises 19 to 22. */
public final class DeliveryEdgesTest {
    private static final int TEXT = Sentence.DESCRIPTION;

    // Every host of the full network has declared group 0, host 7 also group 3, and all is settled.
    private static final String ALL_DECLARE = Networks.FULL_NETWORK
            + "join(0, 0) = 1; join(1, 0) = 1; join(2, 0) = 1; join(3, 0) = 1; join(4, 0) = 1;"
            + "join(5, 0) = 1; join(6, 0) = 1; join(7, 0) = 1; join(7, 3) = 1; tick(20) = 72; isSettled() = 1;";

    public static void main(String[] args) {
        errorsOfHostAndGroup(19, "receivers", "Returns a bit set (bit k stands for host k)");
        errorsOfHostAndGroup(20, "missedCount", "Returns the number of these hosts");
        errorsOfHostAndGroup(21, "needlessCount", "Returns the number of these hosts");
        delivery();
        receivers();
        missedCount();
        missedStates();
        needlessCount();
        distance();
        distanceErrors();
        Script.end();
    }

    private static void errorsOfHostAndGroup(int promise, String method, String answer) {
        String quote = answer + "; NO_SUCH_HOST; NO_SUCH_GROUP.";
        Sentence.changesNothing(promise, quote, "a host that does not exist, on each side", Networks.BUSY,
                method + "(-1, 0) = NO_SUCH_HOST;" + method + "(5, 0) = NO_SUCH_HOST;",
                method + "(7, 0) = NO_SUCH_HOST;" + method + "(8, 0) = NO_SUCH_HOST");
        Sentence.changesNothing(promise, quote, "the ninth of eight hosts", Networks.FULL_AND_BUSY,
                method + "(8, 0) = NO_SUCH_HOST;" + method + "(-1, 0) = NO_SUCH_HOST;" + method + "(7, 1) = 0");
        Sentence.changesNothing(promise, quote, "a group that does not exist, on each side", Networks.BUSY,
                method + "(0, -1) = NO_SUCH_GROUP;" + method + "(0, 4) = NO_SUCH_GROUP;",
                method + "(4, -1) = NO_SUCH_GROUP;" + method + "(4, 4) = NO_SUCH_GROUP");
        Sentence.changesNothing(promise, quote, "both errors at once", Networks.BUSY,
                method + "(5, 4) = NO_SUCH_HOST;" + method + "(-1, -1) = NO_SUCH_HOST;",
                method + "(5, -1) = NO_SUCH_HOST;" + method + "(-1, 4) = NO_SUCH_HOST");
    }

    private static void delivery() {
        String quote = "A bridge sends a frame that arrives at one of its ports out of each of its other connected ports at which the group is registered";
        Sentence.holds(TEXT, quote, "not out of the port where it arrived, from a host", Networks.TWO_HOSTS,
                "join(0, 0) = 1; tick(5) = 4; registrar(0, 0, 0) = IN; receivers(0, 0) = 0; receivers(1, 0) = 1");
        Sentence.holds(TEXT, quote, "not out of the port where it arrived, from a bridge", Networks.TWO_BRIDGES,
                "join(0, 0) = 1; join(1, 0) = 1; tick(9) = 12; registrar(0, 0, 0) = IN; registrar(1, 0, 0) = IN;",
                "receivers(0, 0) = 2; receivers(1, 0) = 1");
        Sentence.holds(TEXT, quote, "not out of a port at which another group is registered", Networks.TWO_HOSTS,
                "join(0, 1) = 1; join(0, 3) = 1; tick(5) = 8; receivers(1, 0) = 0; receivers(1, 1) = 1;",
                "receivers(1, 2) = 0; receivers(1, 3) = 1");
        Sentence.holds(TEXT, quote, "out of the first and the last port", "addBridge() = 0; addHost(0, 0) = 0;",
                "addHost(0, 1) = 1; addHost(0, 3) = 2; join(0, 0) = 1; join(2, 0) = 1; tick(5) = 10;",
                "receivers(1, 0) = 5; receivers(0, 0) = 4; receivers(2, 0) = 1");
        Sentence.holds(TEXT, quote, "not over a port at which it is not registered, though it is behind it",
                Networks.TWO_BRIDGES, "join(1, 0) = 1; tick(1) = 1; registrar(1, 1, 0) = IN;",
                "registrar(0, 0, 0) = EMPTY; receivers(0, 0) = 0; tick(1) = 2; receivers(0, 0) = 2");
        Sentence.holds(TEXT, quote, "over a port at which it is still registered, though not behind it",
                Networks.TWO_BRIDGES, "setTimes(1, 0) = 4; join(1, 0) = 1; tick(5) = 6; leave(1, 0) = 1; tick(2) = 2;",
                "registrar(0, 0, 0) = LEAVING; registrar(1, 1, 0) = EMPTY; receivers(0, 0) = 0");
        Sentence.changesNothing(TEXT, "Delivery takes no time and changes nothing.", "through all five bridges",
                ALL_DECLARE, "receivers(0, 3) = 128; missedCount(0, 3) = 0; needlessCount(0, 3) = 0");
        Sentence.changesNothing(TEXT, "Delivery takes no time and changes nothing.", "while something goes on",
                Networks.BUSY, "receivers(0, 1) = 4; needlessCount(0, 1) = 1; missedCount(1, 0) = 1");
    }

    private static void receivers() {
        String quote = "Returns a bit set (bit k stands for host k)";
        Sentence.holds(19, quote, "no receiver at all", Networks.FULL_NETWORK,
                "receivers(0, 0) = 0; receivers(7, 3) = 0; join(3, 0) = 1; receivers(0, 0) = 0");
        Sentence.holds(19, quote, "the first and the last bit", ALL_DECLARE,
                "receivers(0, 3) = 128; receivers(6, 3) = 128; receivers(7, 3) = 0; leave(7, 0) = 1;",
                "receivers(7, 0) = 127; receivers(0, 0) = 254");
        Sentence.holds(19, quote, "all hosts but the sender itself", ALL_DECLARE,
                "receivers(0, 0) = 254; receivers(1, 0) = 253; receivers(2, 0) = 251; receivers(3, 0) = 247;",
                "receivers(4, 0) = 239; receivers(5, 0) = 223; receivers(6, 0) = 191; receivers(7, 0) = 127");
        Sentence.holds(19, "Returns the hosts to which a group frame gets.", "the sender itself alone declares",
                Networks.TWO_BRIDGES, "join(0, 0) = 1; tick(9) = 6; receivers(0, 0) = 0; receivers(1, 0) = 1");
        Sentence.holds(19, "Returns the hosts to which a group frame gets.", "not those behind a link that was cut",
                ALL_DECLARE, "cut(2, 0) = 3; receivers(0, 0) = 6; receivers(2, 0) = 3; receivers(3, 0) = 240;",
                "receivers(7, 0) = 120; receivers(0, 3) = 0; receivers(3, 3) = 128");
        Sentence.holds(19, "Returns the hosts to which a group frame gets.", "a host that is alone",
                Networks.ONE_HOST, "receivers(0, 0) = 0; join(0, 0) = 1; tick(2) = 2; receivers(0, 0) = 0");
        Sentence.holds(19, "Returns the hosts to which a group frame gets.", "silent hosts send and get frames",
                Networks.TWO_HOSTS, "join(0, 0) = 1; join(1, 0) = 1; tick(9) = 8; setSilent(0, true) = 1;",
                "setSilent(1, true) = 1; receivers(0, 0) = 2; receivers(1, 0) = 1");
    }

    private static void missedCount() {
        String other = "the hosts other than the sender that are connected with it by links";
        Sentence.holds(20, other, "the sender itself is none", Networks.TWO_HOSTS,
                "join(0, 0) = 1; missedCount(0, 0) = 0; missedCount(1, 0) = 1");
        Sentence.holds(20, other, "a host that is alone", Networks.ONE_HOST,
                "missedCount(0, 0) = 0; join(0, 0) = 1; missedCount(0, 0) = 0");
        Sentence.holds(20, other, "hosts at the same bridge are", Networks.TWO_HOSTS,
                "addHost(0, 2) = 2; join(1, 0) = 1; join(2, 0) = 1; missedCount(0, 0) = 2; missedCount(1, 0) = 1");
        Sentence.holds(20, other, "hosts through four links are", Networks.FULL_NETWORK,
                "join(7, 3) = 1; missedCount(0, 3) = 1; missedCount(6, 3) = 1; missedCount(7, 3) = 0");
        Sentence.holds(20, other, "ports that declare the group are no hosts", Networks.FIVE_BRIDGES,
                "connect(0, 0, 4, 3) = 1; addHost(0, 1) = 0; addHost(4, 0) = 1; join(1, 0) = 1; tick(9) = 6;",
                "applicant(4, 3, 0) = QUIET; applicant(0, 1, 0) = QUIET; missedCount(0, 0) = 0; missedCount(1, 0) = 0;",
                "leave(1, 0) = 1; missedCount(0, 0) = 0");
        Sentence.holds(20, other, "all seven at most", Networks.FULL_NETWORK,
                "join(0, 0) = 1; join(1, 0) = 1; join(2, 0) = 1; join(3, 0) = 1; join(4, 0) = 1; join(5, 0) = 1;",
                "join(6, 0) = 1; join(7, 0) = 1; missedCount(0, 0) = 7; missedCount(7, 0) = 7; missedCount(3, 0) = 7;",
                "missedCount(0, 1) = 0");
        Sentence.holds(20, other, "hosts that no link leads to are not", Networks.FIVE_BRIDGES,
                "addHost(0, 0) = 0; addHost(4, 0) = 1; join(1, 0) = 1; join(0, 0) = 1; missedCount(0, 0) = 0;",
                "missedCount(1, 0) = 0; connect(0, 3, 4, 3) = 1; missedCount(0, 0) = 1; missedCount(1, 0) = 1;",
                "cut(4, 3) = 0; missedCount(0, 0) = 0");
    }

    private static void missedStates() {
        String states = "whose applicant for the group is ANXIOUS or QUIET";
        Sentence.holds(20, states, "anxious with 2 joins, leaver, observer", Networks.TWO_HOSTS,
                "missedCount(0, 0) = 0; join(1, 0) = 1; missedCount(0, 0) = 1; leave(1, 0) = 1;",
                "missedCount(0, 0) = 0; tick(1) = 1; missedCount(0, 0) = 0; missedCount(0, 1) = 0");
        Sentence.holds(20, states, "quiet, then anxious with 1 join", Networks.TWO_BRIDGES,
                "join(1, 0) = 1; tick(1) = 1; loseNext(1, 0) = 1; missedCount(0, 0) = 1; tick(1) = 2;",
                "loseNext(1, 0) = 1; hostApplicant(1, 0) = QUIET; missedCount(0, 0) = 1; tick(1) = 1;",
                "missedCount(0, 0) = 1; setTimes(6, 1) = 4; loseNext(1, 0) = 1; tick(1) = 5;",
                "hostApplicant(1, 0) = ANXIOUS; missedCount(0, 0) = 1");
        Sentence.holds(20, states, "for this group alone", Networks.TWO_HOSTS,
                "join(1, 1) = 1; missedCount(0, 0) = 0; missedCount(0, 1) = 1; missedCount(0, 2) = 0");
        Sentence.holds(20, states, "silent hosts too", Networks.TWO_HOSTS,
                "setSilent(1, true) = 1; join(1, 0) = 1; tick(9) = 0; missedCount(0, 0) = 1; setSilent(0, true) = 1;",
                "missedCount(0, 0) = 1");
        Sentence.holds(20, "that are not among the receivers", "none as soon as they are, also while leaving",
                Networks.TWO_HOSTS, "setTimes(6, 3) = 2; join(1, 0) = 1; missedCount(0, 0) = 1; tick(1) = 1;",
                "missedCount(0, 0) = 0; tick(1) = 2; setSilent(1, true) = 1; tick(1) = 3;",
                "registrar(0, 1, 0) = LEAVING; hostApplicant(1, 0) = ANXIOUS; missedCount(0, 0) = 0;",
                "tick(5) = 3; registrarTimer(0, 1, 0) = 1; missedCount(0, 0) = 0; tick(1) = 3; missedCount(0, 0) = 1");
    }

    private static void needlessCount() {
        String quote = "Counts the receivers of a group frame whose applicant for the group is neither ANXIOUS nor QUIET.";
        Sentence.holds(21, quote, "no receiver at all", Networks.FULL_NETWORK,
                "needlessCount(0, 0) = 0; needlessCount(7, 3) = 0");
        Sentence.holds(21, quote, "a leaver and an observer, but no quiet or anxious one", Networks.TWO_HOSTS,
                "join(1, 0) = 1; tick(1) = 1; hostApplicant(1, 0) = ANXIOUS; receivers(0, 0) = 2;",
                "needlessCount(0, 0) = 0; tick(1) = 2; hostApplicant(1, 0) = QUIET; needlessCount(0, 0) = 0;",
                "leave(1, 0) = 1; hostApplicant(1, 0) = LEAVER; needlessCount(0, 0) = 1; tick(1) = 2;",
                "hostApplicant(1, 0) = OBSERVER; needlessCount(0, 0) = 1; join(1, 0) = 1; needlessCount(0, 0) = 0");
        Sentence.holds(21, quote, "up to the last tick of leaving", Networks.TWO_HOSTS,
                "setTimes(2, 0) = 2; join(1, 0) = 1; tick(3) = 4; leave(1, 0) = 1; tick(2) = 1;",
                "registrarTimer(0, 1, 0) = 1; needlessCount(0, 0) = 1; tick(1) = 1; needlessCount(0, 0) = 0");
        Sentence.holds(21, quote, "the sender itself is no receiver", Networks.TWO_HOSTS,
                "join(0, 0) = 1; tick(5) = 4; leave(0, 0) = 1; needlessCount(0, 0) = 0; needlessCount(1, 0) = 1");
        Sentence.holds(21, quote, "all seven at most, the first and the last host too", ALL_DECLARE,
                "leave(0, 0) = 1; leave(1, 0) = 1; leave(2, 0) = 1; leave(3, 0) = 1; leave(4, 0) = 1;",
                "leave(5, 0) = 1; leave(6, 0) = 1; needlessCount(7, 0) = 7; needlessCount(0, 0) = 6;",
                "leave(7, 0) = 1; needlessCount(0, 0) = 7; needlessCount(7, 0) = 7; needlessCount(0, 3) = 0");
        Sentence.holds(21, quote, "not hosts behind a link that was cut", ALL_DECLARE,
                "leave(7, 3) = 1; needlessCount(0, 3) = 1; cut(2, 0) = 3; needlessCount(0, 3) = 0; needlessCount(3, 3) = 1");
    }

    private static void distance() {
        String same = "1 if both hosts are at the same bridge (also for the same host)";
        Sentence.holds(22, same, "both hosts at the same bridge", Networks.FULL_NETWORK,
                "distance(0, 1) = 1; distance(1, 0) = 1; distance(5, 7) = 1; distance(7, 6) = 1");
        Sentence.holds(22, same, "the same host twice", Networks.FULL_NETWORK,
                "distance(0, 0) = 1; distance(3, 3) = 1; distance(7, 7) = 1");
        Sentence.holds(22, same, "also without links", "addBridge() = 0; addHost(0, 3) = 0; addHost(0, 0) = 1;",
                "distance(0, 0) = 1; distance(1, 1) = 1; distance(0, 1) = 1");
        String apart = "0 if the hosts are not connected with each other";
        Sentence.holds(22, apart, "before the link, and after it was cut", Networks.FIVE_BRIDGES,
                "addHost(0, 0) = 0; addHost(4, 3) = 1; distance(0, 1) = 0; distance(1, 0) = 0;",
                "connect(0, 1, 4, 0) = 1; distance(0, 1) = 2; distance(1, 0) = 2; cut(0, 1) = 0;",
                "distance(0, 1) = 0; distance(1, 1) = 1");
        Sentence.holds(22, apart, "the middle of five bridges is cut", Networks.FULL_NETWORK,
                "cut(2, 1) = 3; distance(0, 3) = 3; distance(0, 4) = 0; distance(4, 3) = 0; distance(4, 7) = 2");
        Sentence.holds(22, "Returns the number of bridges", "1 to 5, in both directions", Networks.FULL_NETWORK,
                "distance(0, 1) = 1; distance(0, 2) = 2; distance(0, 3) = 3; distance(0, 4) = 4; distance(0, 5) = 5;",
                "distance(7, 4) = 2; distance(7, 3) = 3; distance(7, 2) = 4; distance(7, 1) = 5; distance(7, 0) = 5");
        Sentence.changesNothing(22, "Returns the number of bridges", "it changes nothing", Networks.BUSY,
                "distance(0, 3) = 3; distance(0, 4) = 0; distance(4, 4) = 1");
    }

    private static void distanceErrors() {
        Sentence.changesNothing(22, "NO_SUCH_HOST", "each argument, on each side", Networks.BUSY,
                "distance(-1, 0) = NO_SUCH_HOST; distance(5, 0) = NO_SUCH_HOST; distance(0, -1) = NO_SUCH_HOST;",
                "distance(0, 5) = NO_SUCH_HOST; distance(7, 0) = NO_SUCH_HOST; distance(0, 8) = NO_SUCH_HOST");
        Sentence.changesNothing(22, "NO_SUCH_HOST", "the same host twice, if it does not exist", Networks.BUSY,
                "distance(5, 5) = NO_SUCH_HOST; distance(-1, -1) = NO_SUCH_HOST; distance(8, 8) = NO_SUCH_HOST");
        Sentence.changesNothing(22, "NO_SUCH_HOST", "the ninth of eight hosts", Networks.FULL_AND_BUSY,
                "distance(8, 0) = NO_SUCH_HOST; distance(0, 8) = NO_SUCH_HOST; distance(8, 8) = NO_SUCH_HOST");
    }
}
