/** The boundary cases that the document names for promises 6 to 12. */
public final class EventEdgesTest {
    public static void main(String[] args) {
        leaveTimes();
        leaveAllTimes();
        runningTimers();
        connectedPorts();
        join();
        leave();
        errorsOfHostAndGroup(7, "join");
        errorsOfHostAndGroup(8, "leave");
        setSilent();
        silentHosts();
        loseNext();
        loseNextErrors();
        tick();
        messages();
        time();
        Script.end();
    }

    private static void leaveTimes() {
        String quote = "the leave time, 1 to 50";
        for (int time : new int[] {1, 50}) {
            Sentence.holds(6, quote, time + " is allowed and is used", Networks.ONE_HOST,
                    "setTimes(" + time + ", 0) = 1; join(0, 0) = 1; tick(2) = 2; leave(0, 0) = 1; tick(1) = 1;",
                    "registrarTimer(0, 0, 0) = " + time);
        }
        Sentence.changesNothing(6, quote, "0 and 51 are not, with any leave-all time that is allowed",
                Networks.BUSY, "setTimes(0, 20) = BAD_VALUE; setTimes(51, 20) = BAD_VALUE;",
                "setTimes(0, 0) = BAD_VALUE; setTimes(51, 0) = BAD_VALUE; setTimes(0, 200) = BAD_VALUE;",
                "setTimes(51, 200) = BAD_VALUE; setTimes(-1, 7) = BAD_VALUE");
    }

    private static void leaveAllTimes() {
        String quote = "the leave-all time, 0 to 200";
        for (int time : new int[] {0, 1, 200}) {
            Sentence.holds(6, quote, time + " is allowed and is used", Networks.ONE_HOST,
                    "setTimes(6, " + time + ") = 1; leaveAllTimer(0, 0) = " + time + "; addHost(0, 1) = 1;",
                    "leaveAllTimer(0, 1) = " + time);
        }
        Sentence.changesNothing(6, quote, "-1 and 201 are not, with any leave time that is allowed",
                Networks.BUSY, "setTimes(4, -1) = BAD_VALUE; setTimes(4, 201) = BAD_VALUE;",
                "setTimes(1, -1) = BAD_VALUE; setTimes(1, 201) = BAD_VALUE; setTimes(50, -1) = BAD_VALUE;",
                "setTimes(50, 201) = BAD_VALUE");
        Sentence.changesNothing(6, "BAD_VALUE", "both times at once",
                Networks.BUSY, "setTimes(0, -1) = BAD_VALUE; setTimes(0, 201) = BAD_VALUE;",
                "setTimes(51, -1) = BAD_VALUE; setTimes(51, 201) = BAD_VALUE");
    }

    private static void runningTimers() {
        Sentence.holds(6, "Timers of registrars that are running keep their values.", "50 stays if 1 is set",
                Networks.ONE_HOST, "setTimes(50, 0) = 1; join(0, 0) = 1; tick(2) = 2; leave(0, 0) = 1;",
                "tick(1) = 1; setTimes(1, 0) = 1; registrarTimer(0, 0, 0) = 50; tick(1) = 0;",
                "registrarTimer(0, 0, 0) = 49; tick(48) = 0; registrarTimer(0, 0, 0) = 1; tick(1) = 0;",
                "registrar(0, 0, 0) = EMPTY");
        Sentence.holds(6, "Timers of registrars that are running keep their values.", "1 stays if 50 is set",
                Networks.ONE_HOST, "setTimes(1, 0) = 1; join(0, 0) = 1; tick(2) = 2; leave(0, 0) = 1;",
                "tick(1) = 1; setTimes(50, 0) = 1; registrarTimer(0, 0, 0) = 1; registrar(0, 0, 0) = LEAVING;",
                "tick(1) = 0; registrar(0, 0, 0) = EMPTY");
        String quote = "The leave-all timers of all connected ports start with the leave-all time (0 stops them).";
        Sentence.holds(6, quote, "a timer at 1 starts again", Networks.TWO_BRIDGES,
                "setTimes(6, 5) = 4; tick(4) = 0; leaveAllTimer(0, 0) = 1; setTimes(6, 5) = 4;",
                "leaveAllTimer(0, 0) = 5; leaveAllTimer(0, 1) = 5; leaveAllTimer(1, 0) = 5;",
                "leaveAllTimer(1, 1) = 5; tick(4) = 0; tick(1) = 4");
        Sentence.holds(6, quote, "0 stops a timer at 1", Networks.TWO_BRIDGES,
                "setTimes(6, 5) = 4; tick(4) = 0; setTimes(6, 0) = 4; leaveAllTimer(0, 0) = 0;",
                "leaveAllTimer(1, 1) = 0; tick(100) = 0; leaveAllTimer(0, 0) = 0");
        Sentence.holds(6, quote, "a timer that was stopped starts", Networks.TWO_BRIDGES,
                "setTimes(6, 0) = 4; tick(9) = 0; setTimes(6, 1) = 4; leaveAllTimer(0, 0) = 1; tick(1) = 4");
        Sentence.holds(6, quote, "the first and the last port, and no free one", Networks.FIVE_BRIDGES,
                "addHost(0, 0) = 0; addHost(4, 3) = 1; setTimes(6, 9) = 2; leaveAllTimer(0, 0) = 9;",
                "leaveAllTimer(4, 3) = 9; leaveAllTimer(0, 1) = 0; leaveAllTimer(4, 2) = 0; leaveAllTimer(2, 0) = 0");
        Sentence.holds(6, quote, "no port that was cut", Networks.TWO_BRIDGES,
                "cut(0, 0) = 0; setTimes(6, 9) = 2; leaveAllTimer(0, 0) = 0; leaveAllTimer(1, 0) = 0");
    }

    private static void connectedPorts() {
        Sentence.holds(6, "Returns the number of connected ports", "0 without bridges and with free ports alone",
                "setTimes(6, 0) = 0;", Networks.FIVE_BRIDGES, "setTimes(6, 0) = 0");
        Sentence.holds(6, "Returns the number of connected ports", "1 for a host, 2 for a link",
                Networks.ONE_HOST, "setTimes(6, 0) = 1; addBridge() = 1; connect(0, 1, 1, 0) = 1;",
                "setTimes(6, 0) = 3; cut(0, 1) = 0; setTimes(6, 0) = 1");
        Sentence.holds(6, "Returns the number of connected ports", "16 at most",
                Networks.FULL_NETWORK, "setTimes(1, 0) = 16; setTimes(50, 200) = 16");
    }

    private static void join() {
        String becomes = "its applicant, if it is an OBSERVER or a LEAVER, becomes ANXIOUS with 2 joins to send";
        Sentence.holds(7, becomes, "an observer", Networks.ONE_HOST,
                "join(0, 0) = 1; hostApplicant(0, 0) = ANXIOUS; tick(1) = 1; hostApplicant(0, 0) = ANXIOUS;",
                "tick(9) = 1; hostApplicant(0, 0) = QUIET");
        Sentence.holds(7, becomes, "a leaver, whose leave is not sent", Networks.ONE_HOST,
                "join(0, 0) = 1; tick(2) = 2; leave(0, 0) = 1; join(0, 0) = 1; hostApplicant(0, 0) = ANXIOUS;",
                "tick(1) = 1; hostApplicant(0, 0) = ANXIOUS; registrar(0, 0, 0) = IN; tick(9) = 1;",
                "hostApplicant(0, 0) = QUIET");
        Sentence.holds(7, becomes, "the last group of the last host, and no other",
                Networks.FULL_NETWORK, "join(7, 3) = 1; hostApplicant(7, 3) = ANXIOUS; hostApplicant(7, 2) = OBSERVER;",
                "hostApplicant(6, 3) = OBSERVER; hostApplicant(0, 0) = OBSERVER; join(0, 0) = 1; hostApplicant(1, 0) = OBSERVER");
        String quote = "Returns 1 if the applicant changed, otherwise 0";
        Sentence.changesNothing(7, quote, "anxious with 2 joins to send: 0",
                Networks.ONE_HOST + "join(0, 0) = 1;", "join(0, 0) = 0");
        Sentence.changesNothing(7, quote, "anxious with 1 join to send: 0",
                Networks.ONE_HOST + "join(0, 0) = 1; tick(1) = 1;", "join(0, 0) = 0");
        Sentence.changesNothing(7, quote, "quiet: 0",
                Networks.ONE_HOST + "join(0, 0) = 1; tick(2) = 2;", "join(0, 0) = 0");
        Sentence.changesNothing(7, quote, "anxious with 1 join to send after a leave-all: 0",
                Networks.ONE_HOST + "join(0, 0) = 1; tick(2) = 2; setTimes(6, 1) = 1; tick(1) = 1; setTimes(6, 0) = 1;",
                "join(0, 0) = 0");
    }

    private static void leave() {
        String becomes = "its applicant, if it is ANXIOUS or QUIET, becomes a LEAVER";
        Sentence.holds(8, becomes, "anxious with 2 joins to send, which are not sent", Networks.ONE_HOST,
                "join(0, 0) = 1; leave(0, 0) = 1; hostApplicant(0, 0) = LEAVER; tick(9) = 1;",
                "hostApplicant(0, 0) = OBSERVER");
        Sentence.holds(8, becomes, "anxious with 1 join to send", Networks.ONE_HOST,
                "join(0, 0) = 1; tick(1) = 1; leave(0, 0) = 1; hostApplicant(0, 0) = LEAVER; tick(9) = 1;",
                "hostApplicant(0, 0) = OBSERVER");
        Sentence.holds(8, becomes, "quiet", Networks.ONE_HOST,
                "join(0, 0) = 1; tick(2) = 2; leave(0, 0) = 1; hostApplicant(0, 0) = LEAVER; tick(9) = 1;",
                "hostApplicant(0, 0) = OBSERVER");
        Sentence.holds(8, becomes, "the last group of the last host, and no other", Networks.FULL_NETWORK,
                "join(7, 3) = 1; join(7, 2) = 1; join(6, 3) = 1; leave(7, 3) = 1; hostApplicant(7, 3) = LEAVER;",
                "hostApplicant(7, 2) = ANXIOUS; hostApplicant(6, 3) = ANXIOUS");
        String quote = "Returns 1 if the applicant changed, otherwise 0";
        Sentence.changesNothing(8, quote, "an observer that never declared: 0",
                Networks.BUSY, "leave(0, 3) = 0; leave(4, 0) = 0");
        Sentence.changesNothing(8, quote, "an observer that has sent its leave: 0", Networks.BUSY, "leave(2, 1) = 0");
        Sentence.changesNothing(8, quote, "a leaver: 0", Networks.BUSY, "leave(0, 0) = 0");
    }

    private static void errorsOfHostAndGroup(int promise, String method) {
        Sentence.changesNothing(promise, "NO_SUCH_HOST", "on each side", Networks.BUSY,
                method + "(-1, 0) = NO_SUCH_HOST;" + method + "(5, 0) = NO_SUCH_HOST;",
                method + "(7, 3) = NO_SUCH_HOST;" + method + "(8, 3) = NO_SUCH_HOST");
        Sentence.changesNothing(promise, "NO_SUCH_HOST", "the ninth of eight hosts", Networks.FULL_AND_BUSY,
                method + "(8, 0) = NO_SUCH_HOST;" + method + "(-1, 3) = NO_SUCH_HOST");
        Sentence.changesNothing(promise, "NO_SUCH_GROUP", "on each side, of the first and the last host",
                Networks.BUSY, method + "(0, -1) = NO_SUCH_GROUP;" + method + "(0, 4) = NO_SUCH_GROUP;",
                method + "(4, -1) = NO_SUCH_GROUP;" + method + "(4, 4) = NO_SUCH_GROUP");
        Sentence.changesNothing(promise, "otherwise 0; NO_SUCH_HOST; NO_SUCH_GROUP", "both at once",
                Networks.BUSY, method + "(5, 4) = NO_SUCH_HOST;" + method + "(5, -1) = NO_SUCH_HOST;",
                method + "(-1, 4) = NO_SUCH_HOST;" + method + "(-1, -1) = NO_SUCH_HOST");
    }

    private static void setSilent() {
        String quote = "Returns 1 if this is a change, otherwise 0";
        Sentence.holds(9, quote, "the first and the last host, each by itself", Networks.FULL_NETWORK,
                "setSilent(0, true) = 1; setSilent(7, true) = 1; setSilent(6, true) = 1; setSilent(1, false) = 0;",
                "setSilent(7, true) = 0; setSilent(7, false) = 1; setSilent(0, true) = 0; setSilent(0, false) = 1;",
                "setSilent(0, false) = 0; setSilent(6, true) = 0");
        Sentence.changesNothing(9, quote, "silent already: 0", Networks.BUSY, "setSilent(3, true) = 0");
        Sentence.changesNothing(9, quote, "not silent already: 0", Networks.BUSY, "setSilent(0, false) = 0; setSilent(4, false) = 0");
        Sentence.changesNothing(9, quote, "no longer silent: 0",
                Networks.BUSY + "setSilent(3, false) = 1;", "setSilent(3, false) = 0");
        Sentence.changesNothing(9, "NO_SUCH_HOST", "on each side", Networks.BUSY,
                "setSilent(-1, true) = NO_SUCH_HOST; setSilent(-1, false) = NO_SUCH_HOST;",
                "setSilent(5, true) = NO_SUCH_HOST; setSilent(5, false) = NO_SUCH_HOST");
        Sentence.changesNothing(9, "NO_SUCH_HOST", "the ninth of eight hosts", Networks.FULL_AND_BUSY,
                "setSilent(8, true) = NO_SUCH_HOST; setSilent(8, false) = NO_SUCH_HOST");
        Sentence.holds(9, "NO_SUCH_HOST", "a host is not silent, though its number was refused before",
                "addBridge() = 0; setSilent(0, true) = NO_SUCH_HOST; addHost(0, 0) = 0; setSilent(0, true) = 1");
    }

    private static void silentHosts() {
        Sentence.holds(9, "A silent host sends nothing", "from the call on, and again after the next",
                Networks.ONE_HOST, "join(0, 0) = 1; tick(1) = 1; setSilent(0, true) = 1; tick(50) = 0;",
                "hostApplicant(0, 0) = ANXIOUS; setSilent(0, false) = 1; tick(50) = 1; hostApplicant(0, 0) = QUIET");
        Sentence.holds(9, "A silent host sends nothing", "not even a leave",
                Networks.ONE_HOST, "join(0, 0) = 1; tick(2) = 2; setSilent(0, true) = 1; leave(0, 0) = 1; tick(50) = 0;",
                "hostApplicant(0, 0) = LEAVER; registrar(0, 0, 0) = IN; setSilent(0, false) = 1; tick(1) = 1;",
                "registrar(0, 0, 0) = LEAVING");
        Sentence.holds(9, "but it receives messages", "a leave-all",
                Networks.ONE_HOST, "join(0, 0) = 1; tick(2) = 2; setSilent(0, true) = 1; setTimes(6, 1) = 1; tick(1) = 1;",
                "hostApplicant(0, 0) = ANXIOUS; setTimes(6, 0) = 1; setSilent(0, false) = 1; tick(9) = 1");
        Sentence.holds(9, "its applicants change as those of other hosts", "by join and leave",
                Networks.ONE_HOST, "setSilent(0, true) = 1; join(0, 0) = 1; hostApplicant(0, 0) = ANXIOUS; join(0, 0) = 0;",
                "leave(0, 0) = 1; hostApplicant(0, 0) = LEAVER; leave(0, 0) = 0; join(0, 0) = 1;",
                "hostApplicant(0, 0) = ANXIOUS; setSilent(0, false) = 1; tick(9) = 2");
    }

    private static void loseNext() {
        Sentence.holds(10, "what it sends in the next tick is lost", "in the next, not in the one after it",
                Networks.TWO_BRIDGES, "join(1, 0) = 1; tick(1) = 1; loseNext(1, 0) = 1; tick(1) = 2;",
                "registrar(0, 0, 0) = EMPTY; tick(1) = 1; registrar(0, 0, 0) = IN");
        Sentence.holds(10, "what it sends in the next tick is lost", "a port that is marked twice loses one tick alone",
                Networks.TWO_BRIDGES, "join(1, 0) = 1; tick(1) = 1; loseNext(1, 0) = 1; loseNext(1, 0) = 0;",
                "tick(1) = 2; registrar(0, 0, 0) = EMPTY; tick(1) = 1; registrar(0, 0, 0) = IN");
        String quote = "Returns 1 if it was not marked, otherwise 0";
        Sentence.holds(10, quote, "each end of a link by itself", Networks.TWO_BRIDGES,
                "loseNext(0, 0) = 1; loseNext(1, 0) = 1; loseNext(0, 0) = 0; loseNext(1, 0) = 0");
        Sentence.holds(10, quote, "the first and the last port of all", Networks.FIVE_BRIDGES,
                "connect(0, 0, 4, 3) = 1; loseNext(0, 0) = 1; loseNext(4, 3) = 1; loseNext(4, 3) = 0");
        Sentence.changesNothing(10, quote, "marked already: 0", Networks.BUSY, "loseNext(1, 0) = 0");
        Sentence.holds(10, quote, "1 again after a tick", Networks.TWO_BRIDGES,
                "loseNext(0, 0) = 1; tick(1) = 0; loseNext(0, 0) = 1; tick(100) = 0; loseNext(0, 0) = 1");
        Sentence.holds(10, quote, "a tick that is refused keeps the mark", Networks.TWO_BRIDGES,
                "loseNext(0, 0) = 1; tick(0) = BAD_VALUE; tick(101) = BAD_VALUE; loseNext(0, 0) = 0");
    }

    private static void loseNextErrors() {
        Sentence.changesNothing(10, "NO_SUCH_PORT", "each argument, on each side", Networks.BUSY,
                "loseNext(-1, 0) = NO_SUCH_PORT; loseNext(4, 0) = NO_SUCH_PORT; loseNext(0, -1) = NO_SUCH_PORT;",
                "loseNext(0, 4) = NO_SUCH_PORT; loseNext(1, -1) = NO_SUCH_PORT; loseNext(1, 4) = NO_SUCH_PORT;",
                "loseNext(-1, 4) = NO_SUCH_PORT");
        Sentence.changesNothing(10, "NOT_LINKED", "a free port, a port with a host", Networks.BUSY,
                "loseNext(0, 3) = NOT_LINKED; loseNext(3, 3) = NOT_LINKED; loseNext(0, 1) = NOT_LINKED;",
                "loseNext(2, 1) = NOT_LINKED; loseNext(3, 0) = NOT_LINKED");
        Sentence.changesNothing(10, "NOT_LINKED", "a port whose link was cut, at either end",
                Networks.BUSY + "cut(0, 0) = 1;", "loseNext(0, 0) = NOT_LINKED; loseNext(1, 0) = NOT_LINKED");
        Sentence.holds(10, "NOT_LINKED", "a port that was refused is not marked when it is linked later",
                Networks.TWO_BRIDGES, "loseNext(0, 2) = NOT_LINKED; cut(0, 0) = 0; connect(0, 2, 1, 2) = 1;",
                "loseNext(0, 2) = 1; loseNext(1, 2) = 1");
    }

    private static void tick() {
        Sentence.holds(11, "1 to 100", "1", "tick(1) = 0; time() = 1");
        Sentence.holds(11, "1 to 100", "100", "tick(100) = 0; time() = 100");
        Sentence.holds(11, "1 to 100", "2 and 99", "tick(2) = 0; time() = 2; tick(99) = 0; time() = 101");
        Sentence.changesNothing(11, "BAD_VALUE", "0 and 101, and what lies beyond", Networks.BUSY,
                "tick(0) = BAD_VALUE; tick(101) = BAD_VALUE; tick(-1) = BAD_VALUE; tick(102) = BAD_VALUE;",
                "tick(-100) = BAD_VALUE; tick(200) = BAD_VALUE; tick(1000) = BAD_VALUE");
        Sentence.holds(11, "Runs ticks.", "one hundred at once are as one hundred alone", Networks.ONE_HOST,
                "setTimes(50, 0) = 1; join(0, 0) = 1; tick(2) = 2; leave(0, 0) = 1; tick(1) = 1;",
                "setTimes(50, 3) = 1; tick(49) = 16; registrarTimer(0, 0, 0) = 1; leaveAllTimer(0, 0) = 2;",
                "tick(100) = 33; registrar(0, 0, 0) = EMPTY; leaveAllTimer(0, 0) = 1; time() = 152");
    }

    private static void messages() {
        String quote = "Returns the number of messages sent in these ticks, lost ones included";
        Sentence.holds(11, quote, "none", Networks.FULL_NETWORK, "tick(100) = 0");
        Sentence.holds(11, quote, "in these ticks, not in those before", Networks.ONE_HOST,
                "join(0, 0) = 1; tick(1) = 1; tick(1) = 1; tick(1) = 0; leave(0, 0) = 1; tick(3) = 1");
        Sentence.holds(11, quote, "those that are lost", Networks.TWO_BRIDGES,
                "setTimes(6, 1) = 4; loseNext(0, 0) = 1; loseNext(1, 0) = 1; tick(1) = 4; tick(1) = 4");
        Sentence.holds(11, quote, "those that change nothing where they are received", Networks.TWO_HOSTS,
                "join(0, 0) = 1; tick(1) = 1; tick(1) = 2; tick(1) = 1");
        Sentence.holds(11, quote, "all sixteen ports, a hundred times", Networks.FULL_NETWORK,
                "setTimes(6, 1) = 16; tick(100) = 1600");
        Sentence.holds(11, quote, "all four groups of all eight hosts", Networks.FULL_NETWORK,
                everyHost("join"), "tick(1) = 32; tick(1) = 84; tick(1) = 64; tick(1) = 12; tick(100) = 0;",
                everyHost("leave"), "tick(1) = 32");
    }

    /** The call for every host and group, each with the answer 1. */
    private static String everyHost(String method) {
        StringBuilder calls = new StringBuilder();
        for (int host = 0; host < 8; host++) {
            for (int group = 0; group < 4; group++) {
                calls.append(method).append('(').append(host).append(", ").append(group).append(") = 1;");
            }
        }
        return calls.toString();
    }

    private static void time() {
        Sentence.holds(12, "Returns the time.", "as long as an object is used: 511 calls of 100 ticks",
                "tick(100) = 0;".repeat(511), "time() = 51100");
        Sentence.holds(12, "Returns the time.", "no other call and no refused tick makes it grow",
                Networks.BUSY, "time() = 9; tick(0) = BAD_VALUE; tick(101) = BAD_VALUE; setTimes(6, 0) = 9;",
                "cut(0, 0) = 1; receivers(0, 0) = 0; isSettled() = 0; time() = 9; tick(1) = 9; time() = 10");
        Sentence.changesNothing(12, "Returns the time.", "it changes nothing", Networks.BUSY, "time() = 9");
    }
}
