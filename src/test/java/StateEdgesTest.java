/** The boundary cases that the document names for promises 13 to 18. */
public final class StateEdgesTest {
    public static void main(String[] args) {
        errorsOfPortAndGroup(13, "registrar", "Returns the state of the registrar");
        errorsOfPortAndGroup(14, "registrarTimer", "Returns the timer of the registrar");
        errorsOfPortAndGroup(15, "applicant", "Returns the state of the applicant of the port");
        registrar();
        registrarTimer();
        applicant();
        hostApplicant();
        leaveAllTimer();
        settledApplicants();
        settledRegistrars();
        settledDeclarations();
        Script.end();
    }

    private static void errorsOfPortAndGroup(int promise, String method, String answer) {
        String quote = answer + "; NO_SUCH_PORT; NO_SUCH_GROUP.";
        Sentence.changesNothing(promise, quote, "a bridge that does not exist, on each side", Networks.BUSY,
                method + "(-1, 0, 0) = NO_SUCH_PORT;" + method + "(4, 0, 0) = NO_SUCH_PORT;",
                method + "(5, 0, 0) = NO_SUCH_PORT");
        Sentence.changesNothing(promise, quote, "a port that does not exist, on each side", Networks.BUSY,
                method + "(0, -1, 0) = NO_SUCH_PORT;" + method + "(0, 4, 0) = NO_SUCH_PORT;",
                method + "(1, -1, 0) = NO_SUCH_PORT;" + method + "(3, 4, 0) = NO_SUCH_PORT");
        Sentence.changesNothing(promise, quote, "a group that does not exist, on each side", Networks.BUSY,
                method + "(0, 0, -1) = NO_SUCH_GROUP;" + method + "(0, 0, 4) = NO_SUCH_GROUP;",
                method + "(3, 3, -1) = NO_SUCH_GROUP;" + method + "(3, 3, 4) = NO_SUCH_GROUP");
        Sentence.changesNothing(promise, quote, "both errors at once", Networks.BUSY,
                method + "(4, 0, 4) = NO_SUCH_PORT;" + method + "(4, 0, -1) = NO_SUCH_PORT;",
                method + "(0, 4, 4) = NO_SUCH_PORT;" + method + "(-1, -1, -1) = NO_SUCH_PORT");
        Sentence.changesNothing(promise, quote, "a port that is free, the first and the last group", Networks.BUSY,
                method + "(0, 3, 0) = 0;" + method + "(0, 3, 3) = 0;" + method + "(3, 3, 0) = 0;",
                method + "(3, 3, 3) = 0");
        Sentence.changesNothing(promise, quote, "the first and the last port of all", Networks.FIVE_BRIDGES,
                method + "(0, 0, 0) = 0;" + method + "(4, 3, 3) = 0");
        Sentence.holds(promise, quote, "a port that was cut is as a free one", Networks.BUSY,
                "setTimes(6, 1) = 9; tick(1) = 27; setTimes(6, 0) = 9; cut(0, 0) = 1;",
                everyGroup(method, "0, 0"), everyGroup(method, "1, 0"));
    }

    /** The call for every group of a port, each with the answer 0. */
    private static String everyGroup(String method, String port) {
        StringBuilder calls = new StringBuilder();
        for (int group = 0; group < 4; group++) {
            calls.append(method).append('(').append(port).append(", ").append(group).append(") = 0;");
        }
        return calls.toString();
    }

    private static void registrar() {
        Sentence.changesNothing(13, "Returns the state of the registrar", "each of the three states", Networks.BUSY,
                "registrar(0, 1, 0) = IN; registrar(1, 2, 1) = LEAVING; registrar(0, 1, 1) = EMPTY;",
                "registrar(0, 0, 1) = IN; registrar(2, 0, 0) = IN");
        Sentence.holds(13, "Returns the state of the registrar", "the last port and group of all", Networks.FULL_NETWORK,
                "join(7, 3) = 1; tick(2) = 5; registrar(4, 3, 3) = IN; registrar(4, 3, 2) = EMPTY;",
                "registrar(4, 2, 3) = EMPTY; leave(7, 3) = 1; tick(1) = 6; registrar(4, 3, 3) = LEAVING");
    }

    private static void registrarTimer() {
        Sentence.changesNothing(14, "Returns the timer of the registrar", "leaving, in and empty", Networks.BUSY,
                "registrarTimer(1, 2, 1) = 4; registrarTimer(0, 1, 0) = 0; registrarTimer(0, 1, 1) = 0");
        for (int time : new int[] {1, 50}) {
            Sentence.holds(14, "Returns the timer of the registrar", "the leave time " + time, Networks.FULL_NETWORK,
                    "setTimes(" + time + ", 0) = 16; join(7, 3) = 1; tick(2) = 5; leave(7, 3) = 1; tick(1) = 6;",
                    "registrarTimer(4, 3, 3) = " + time + "; registrarTimer(4, 3, 2) = 0;",
                    "registrarTimer(4, 2, 3) = 0");
        }
    }

    private static void applicant() {
        Sentence.changesNothing(15, "Returns the state of the applicant of the port", "quiet and observer", Networks.BUSY,
                "applicant(0, 0, 0) = QUIET; applicant(0, 1, 0) = OBSERVER; applicant(2, 1, 1) = QUIET;",
                "applicant(2, 1, 3) = OBSERVER; applicant(3, 0, 3) = OBSERVER");
        Sentence.changesNothing(15, "Returns the state of the applicant of the port", "anxious",
                Networks.FULL_AND_BUSY, "applicant(1, 1, 0) = ANXIOUS; applicant(3, 0, 3) = ANXIOUS;",
                "applicant(4, 2, 3) = QUIET; applicant(4, 3, 3) = OBSERVER");
        Sentence.holds(15, "Returns the state of the applicant of the port", "not that of its host", Networks.TWO_HOSTS,
                "join(0, 0) = 1; hostApplicant(0, 0) = ANXIOUS; applicant(0, 0, 0) = OBSERVER; tick(5) = 4;",
                "hostApplicant(0, 0) = QUIET; applicant(0, 0, 0) = OBSERVER; hostApplicant(1, 0) = OBSERVER;",
                "applicant(0, 1, 0) = QUIET");
    }

    private static void hostApplicant() {
        String quote = "Returns the state of the applicant of the host; NO_SUCH_HOST; NO_SUCH_GROUP.";
        Sentence.changesNothing(16, quote, "each of the four states", Networks.BUSY,
                "hostApplicant(2, 1) = OBSERVER; hostApplicant(1, 3) = ANXIOUS; hostApplicant(3, 2) = QUIET;",
                "hostApplicant(0, 0) = LEAVER; hostApplicant(3, 0) = ANXIOUS; hostApplicant(4, 3) = ANXIOUS");
        Sentence.changesNothing(16, quote, "a host that does not exist, on each side", Networks.BUSY,
                "hostApplicant(-1, 0) = NO_SUCH_HOST; hostApplicant(5, 0) = NO_SUCH_HOST;",
                "hostApplicant(7, 0) = NO_SUCH_HOST; hostApplicant(8, 0) = NO_SUCH_HOST");
        Sentence.changesNothing(16, quote, "the eighth host is there, the ninth is not", Networks.FULL_AND_BUSY,
                "hostApplicant(7, 3) = QUIET; hostApplicant(0, 0) = QUIET; hostApplicant(8, 0) = NO_SUCH_HOST");
        Sentence.changesNothing(16, quote, "a group that does not exist, on each side", Networks.BUSY,
                "hostApplicant(0, -1) = NO_SUCH_GROUP; hostApplicant(0, 4) = NO_SUCH_GROUP;",
                "hostApplicant(4, -1) = NO_SUCH_GROUP; hostApplicant(4, 4) = NO_SUCH_GROUP");
        Sentence.changesNothing(16, quote, "both errors at once", Networks.BUSY,
                "hostApplicant(5, 4) = NO_SUCH_HOST; hostApplicant(-1, -1) = NO_SUCH_HOST;",
                "hostApplicant(5, -1) = NO_SUCH_HOST; hostApplicant(-1, 4) = NO_SUCH_HOST");
    }

    private static void leaveAllTimer() {
        String quote = "Returns the leave-all timer of the port; NO_SUCH_PORT.";
        Sentence.changesNothing(17, quote, "a bridge or a port that does not exist, on each side", Networks.BUSY,
                "leaveAllTimer(-1, 0) = NO_SUCH_PORT; leaveAllTimer(4, 0) = NO_SUCH_PORT;",
                "leaveAllTimer(0, -1) = NO_SUCH_PORT; leaveAllTimer(0, 4) = NO_SUCH_PORT;",
                "leaveAllTimer(3, 4) = NO_SUCH_PORT; leaveAllTimer(1, -1) = NO_SUCH_PORT;",
                "leaveAllTimer(-1, -1) = NO_SUCH_PORT; leaveAllTimer(4, 4) = NO_SUCH_PORT");
        Sentence.changesNothing(17, quote, "ports that are linked, that have a host, that are free", Networks.BUSY,
                "leaveAllTimer(0, 0) = 11; leaveAllTimer(1, 0) = 11; leaveAllTimer(3, 0) = 11;",
                "leaveAllTimer(0, 3) = 0; leaveAllTimer(3, 3) = 0");
        Sentence.holds(17, quote, "200 to 1 and 200 again, at the last port of all", Networks.FULL_NETWORK,
                "setTimes(6, 200) = 16; leaveAllTimer(4, 3) = 200; tick(100) = 0; leaveAllTimer(4, 3) = 100;",
                "tick(99) = 0; leaveAllTimer(4, 3) = 1; leaveAllTimer(3, 3) = 0; tick(1) = 16;",
                "leaveAllTimer(4, 3) = 200; leaveAllTimer(0, 0) = 200; leaveAllTimer(3, 3) = 0");
    }

    private static void settledApplicants() {
        String quote = "no applicant is ANXIOUS or a LEAVER (those of silent hosts do not matter)";
        Sentence.holds(18, quote, "no applicants at all", "isSettled() = 1; addBridge() = 0; isSettled() = 1");
        Sentence.holds(18, quote, "an anxious host, with 2 joins and with 1 join to send", Networks.ONE_HOST,
                "isSettled() = 1; join(0, 0) = 1; isSettled() = 0; tick(1) = 1; isSettled() = 0; tick(1) = 1;",
                "isSettled() = 1");
        Sentence.holds(18, quote, "a host that is a leaver", Networks.ONE_HOST,
                "join(0, 0) = 1; leave(0, 0) = 1; isSettled() = 0; tick(1) = 1; isSettled() = 1");
        Sentence.holds(18, quote, "the last group of the last host", Networks.FULL_NETWORK,
                "isSettled() = 1; join(7, 3) = 1; isSettled() = 0; setSilent(7, true) = 1; isSettled() = 1");
        Sentence.holds(18, quote, "an anxious port, with 2 joins and with 1 join to send", Networks.TWO_HOSTS,
                "join(0, 3) = 1; tick(2) = 3; hostApplicant(0, 3) = QUIET; applicant(0, 1, 3) = ANXIOUS;",
                "isSettled() = 0; tick(1) = 1; applicant(0, 1, 3) = QUIET; isSettled() = 1");
        Sentence.holds(18, quote, "an anxious port, though its group is wanted no longer: the first of all",
                Networks.ONE_HOST, "addBridge() = 1; connect(0, 3, 1, 0) = 1; addHost(1, 1) = 1; join(1, 0) = 1;",
                "tick(3) = 5; cut(0, 3) = 0; applicant(0, 0, 0) = ANXIOUS; isSettled() = 0; tick(1) = 1;",
                "isSettled() = 1");
        Sentence.holds(18, quote, "an anxious port, though its group is wanted no longer: the last of all",
                Networks.FIVE_BRIDGES, "addHost(4, 3) = 0; connect(0, 0, 4, 0) = 1; addHost(0, 1) = 1; join(1, 3) = 1;",
                "tick(3) = 5; cut(4, 0) = 0; applicant(4, 3, 3) = ANXIOUS; isSettled() = 0; tick(1) = 1;",
                "isSettled() = 1");
        Sentence.holds(18, quote, "silent hosts that are anxious and leavers", Networks.TWO_HOSTS,
                "join(0, 0) = 1; setSilent(0, true) = 1; isSettled() = 1; join(1, 1) = 1; leave(1, 1) = 1;",
                "isSettled() = 0; setSilent(1, true) = 1; isSettled() = 1; setSilent(0, false) = 1;",
                "isSettled() = 0; setSilent(0, true) = 1; setSilent(1, false) = 1; isSettled() = 0");
        Sentence.holds(18, quote, "the port of a silent host does matter", Networks.TWO_HOSTS,
                "setSilent(1, true) = 1; join(0, 0) = 1; tick(2) = 3; applicant(0, 1, 0) = ANXIOUS;",
                "isSettled() = 0; tick(1) = 1; isSettled() = 1");
    }

    private static void settledRegistrars() {
        String quote = "no registrar is LEAVING";
        Sentence.holds(18, quote, "from the first tick of leaving to the last", Networks.ONE_HOST,
                "setTimes(3, 0) = 1; join(0, 3) = 1; tick(2) = 2; isSettled() = 1; leave(0, 3) = 1; tick(1) = 1;",
                "registrarTimer(0, 0, 3) = 3; isSettled() = 0; tick(2) = 0; registrarTimer(0, 0, 3) = 1;",
                "isSettled() = 0; tick(1) = 0; isSettled() = 1");
        Sentence.holds(18, quote, "at the last port of all", Networks.FULL_NETWORK,
                "setTimes(2, 0) = 16; join(7, 3) = 1; tick(9) = 24; isSettled() = 1; leave(7, 3) = 1; tick(1) = 1;",
                "registrar(4, 3, 3) = LEAVING; isSettled() = 0");
        Sentence.holds(18, quote, "at the port of a silent host too", Networks.ONE_HOST,
                "setTimes(3, 3) = 1; join(0, 0) = 1; tick(2) = 2; setSilent(0, true) = 1; isSettled() = 1;",
                "tick(1) = 1; registrar(0, 0, 0) = LEAVING; isSettled() = 0; tick(2) = 0; isSettled() = 0;",
                "tick(1) = 1; registrar(0, 0, 0) = EMPTY; isSettled() = 1");
        Sentence.holds(18, quote, "no longer after a cut", Networks.TWO_BRIDGES,
                "setTimes(1, 0) = 4; join(0, 0) = 1; tick(5) = 6; leave(0, 0) = 1; tick(2) = 2;",
                "setTimes(50, 0) = 4; registrar(0, 1, 0) = EMPTY; registrar(1, 0, 0) = LEAVING; isSettled() = 0;",
                "cut(0, 0) = 0; isSettled() = 0; tick(1) = 1; isSettled() = 1");
    }

    private static void settledDeclarations() {
        String quote = "at each connected port an applicant declares a group (is QUIET) exactly if the group is registered at another connected port of the same bridge";
        Sentence.holds(18, quote, "registered elsewhere, but not declared", Networks.ONE_HOST,
                "join(0, 3) = 1; tick(2) = 2; isSettled() = 1; addHost(0, 3) = 1; applicant(0, 3, 3) = OBSERVER;",
                "isSettled() = 0; tick(2) = 2; isSettled() = 1");
        Sentence.holds(18, quote, "registered elsewhere, but not declared, at the last port of all",
                Networks.FIVE_BRIDGES, "addHost(4, 0) = 0; join(0, 0) = 1; tick(2) = 2; isSettled() = 1;",
                "addHost(4, 3) = 1; isSettled() = 0; tick(2) = 2; isSettled() = 1");
        Sentence.holds(18, quote, "declared, but not registered elsewhere", Networks.TWO_BRIDGES,
                "join(1, 0) = 1; tick(5) = 6; isSettled() = 1; cut(0, 0) = 0; applicant(0, 1, 0) = QUIET;",
                "isSettled() = 0; tick(1) = 1; isSettled() = 1");
        Sentence.holds(18, quote, "registered at the port itself alone", Networks.TWO_HOSTS,
                "join(0, 0) = 1; tick(5) = 4; applicant(0, 0, 0) = OBSERVER; isSettled() = 1");
        Sentence.holds(18, quote, "free ports do not declare", Networks.ONE_HOST,
                "join(0, 0) = 1; tick(2) = 2; applicant(0, 1, 0) = OBSERVER; isSettled() = 1");
        Sentence.holds(18, quote, "a new link beside a registered group", Networks.ONE_HOST,
                "join(0, 0) = 1; tick(2) = 2; addBridge() = 1; connect(0, 1, 1, 0) = 1; isSettled() = 0;",
                "tick(2) = 2; isSettled() = 1");
        Sentence.holds(18, quote, "registered at another bridge, where the joins were lost", Networks.TWO_BRIDGES,
                "join(1, 0) = 1; tick(1) = 1; loseNext(1, 0) = 1; tick(1) = 2; loseNext(1, 0) = 1; tick(1) = 1;",
                "registrar(0, 0, 0) = EMPTY; isSettled() = 1");
        Sentence.changesNothing(18, "Tells whether nothing is going on", "it changes nothing itself",
                Networks.BUSY, "isSettled() = 0");
        Sentence.changesNothing(18, "Tells whether nothing is going on", "nor if nothing is going on",
                Networks.FULL_NETWORK, "isSettled() = 1");
    }
}
