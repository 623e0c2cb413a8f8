/** The boundary cases that the "Description" names for registrars, applicants and the parts of a tick. */
public final class TickEdgesTest {
    private static final int TEXT = Sentence.DESCRIPTION;

    // Host 1 has declared group 2 through the link, and all applicants are quiet.
    private static final String DECLARED = Networks.TWO_BRIDGES + "join(1, 2) = 1; tick(5) = 6;";

    public static void main(String[] args) {
        statesOfRegistrars();
        statesOfApplicants();
        registrarTimers();
        leaveAllTimers();
        onlyConnectedPorts();
        wantedGroups();
        propagation();
        sendingALeaveAll();
        sendingJoinsAndLeaves();
        receivingALeaveAll();
        receivingJoinsAndLeaves();
        order();
        loss();
        time();
        Script.end();
    }

    private static void statesOfRegistrars() {
        String quote = "while it is LEAVING, its timer is above 0, otherwise its timer is 0";
        Sentence.holds(TEXT, quote, "leaving ends by its last tick",
                Networks.ONE_HOST, "setTimes(2, 0) = 1; registrar(0, 0, 0) = EMPTY; registrarTimer(0, 0, 0) = 0;",
                "join(0, 0) = 1; tick(2) = 2; registrar(0, 0, 0) = IN; registrarTimer(0, 0, 0) = 0;",
                "leave(0, 0) = 1; tick(1) = 1; registrar(0, 0, 0) = LEAVING; registrarTimer(0, 0, 0) = 2;",
                "tick(1) = 0; registrar(0, 0, 0) = LEAVING; registrarTimer(0, 0, 0) = 1;",
                "tick(1) = 0; registrar(0, 0, 0) = EMPTY; registrarTimer(0, 0, 0) = 0;",
                "tick(1) = 0; registrar(0, 0, 0) = EMPTY; registrarTimer(0, 0, 0) = 0");
        Sentence.holds(TEXT, quote, "leaving ends by a join, in its last tick and before",
                Networks.ONE_HOST, "setTimes(2, 0) = 1; join(0, 0) = 1; tick(2) = 2; leave(0, 0) = 1;",
                "tick(1) = 1; registrarTimer(0, 0, 0) = 2; join(0, 0) = 1; tick(1) = 1;",
                "registrar(0, 0, 0) = IN; registrarTimer(0, 0, 0) = 0; tick(1) = 1; leave(0, 0) = 1;",
                "tick(2) = 1; registrarTimer(0, 0, 0) = 1; join(0, 0) = 1; tick(1) = 1;",
                "registrar(0, 0, 0) = IN; registrarTimer(0, 0, 0) = 0; tick(100) = 1;",
                "registrar(0, 0, 0) = IN; registrarTimer(0, 0, 0) = 0");
        Sentence.holds(TEXT, "A group is registered at a port if the registrar is not EMPTY.",
                "until the last tick of leaving",
                Networks.TWO_HOSTS, "setTimes(2, 0) = 2; join(1, 3) = 1; receivers(0, 3) = 0; tick(2) = 3;",
                "receivers(0, 3) = 2; leave(1, 3) = 1; tick(2) = 2; registrarTimer(0, 1, 3) = 1;",
                "receivers(0, 3) = 2; applicant(0, 0, 3) = QUIET; tick(1) = 1; receivers(0, 3) = 0;",
                "applicant(0, 0, 3) = OBSERVER");
    }

    private static void statesOfApplicants() {
        String anxious = "ANXIOUS (it declares the group and still has to send 1 or 2 joins)";
        Sentence.holds(TEXT, anxious, "2 joins after a new declaration, then 1",
                Networks.ONE_HOST, "join(0, 0) = 1; hostApplicant(0, 0) = ANXIOUS; tick(1) = 1;",
                "hostApplicant(0, 0) = ANXIOUS; tick(1) = 1; hostApplicant(0, 0) = QUIET");
        Sentence.holds(TEXT, anxious, "1 join after a leave-all",
                Networks.ONE_HOST, "join(0, 0) = 1; tick(2) = 2; setTimes(6, 1) = 1; tick(1) = 1;",
                "setTimes(6, 0) = 1; hostApplicant(0, 0) = ANXIOUS; tick(1) = 1; hostApplicant(0, 0) = QUIET");
        Sentence.holds(TEXT, "OBSERVER (it does not declare the group)", "it sends nothing and misses nothing",
                Networks.TWO_HOSTS, "hostApplicant(1, 0) = OBSERVER; tick(100) = 0; missedCount(0, 0) = 0");
        Sentence.holds(TEXT, "QUIET (it declares the group and has nothing to send)", "it sends nothing",
                Networks.ONE_HOST, "join(0, 0) = 1; tick(2) = 2; hostApplicant(0, 0) = QUIET; tick(100) = 0;",
                "hostApplicant(0, 0) = QUIET; registrar(0, 0, 0) = IN");
        Sentence.holds(TEXT, "LEAVER (it has stopped declaring the group and still has to send a leave)",
                "one leave", Networks.ONE_HOST, "join(0, 0) = 1; tick(2) = 2; leave(0, 0) = 1;",
                "hostApplicant(0, 0) = LEAVER; tick(1) = 1; hostApplicant(0, 0) = OBSERVER; tick(100) = 0");
    }

    private static void registrarTimers() {
        String quote = "if the registrar is LEAVING, its timer decreases by 1, and if it becomes 0, the registrar becomes EMPTY";
        Sentence.holds(TEXT, quote, "from 1", Networks.ONE_HOST,
                "setTimes(1, 0) = 1; join(0, 3) = 1; tick(2) = 2; leave(0, 3) = 1; tick(1) = 1;",
                "registrar(0, 0, 3) = LEAVING; registrarTimer(0, 0, 3) = 1; tick(1) = 0;",
                "registrar(0, 0, 3) = EMPTY; registrarTimer(0, 0, 3) = 0");
        Sentence.holds(TEXT, quote, "from 50", Networks.ONE_HOST,
                "setTimes(50, 0) = 1; join(0, 0) = 1; tick(2) = 2; leave(0, 0) = 1; tick(1) = 1;",
                "registrarTimer(0, 0, 0) = 50; tick(1) = 0; registrarTimer(0, 0, 0) = 49; tick(48) = 0;",
                "registrar(0, 0, 0) = LEAVING; registrarTimer(0, 0, 0) = 1; tick(1) = 0;",
                "registrar(0, 0, 0) = EMPTY; registrarTimer(0, 0, 0) = 0");
        Sentence.holds(TEXT, quote, "each group and each port has its own timer, others have none",
                Networks.TWO_HOSTS, "setTimes(3, 0) = 2; join(0, 0) = 1; join(0, 1) = 1; join(1, 0) = 1;",
                "tick(4) = 12; leave(0, 0) = 1; tick(1) = 1; leave(1, 0) = 1; tick(1) = 1;",
                "registrarTimer(0, 0, 0) = 2; registrarTimer(0, 1, 0) = 3; registrarTimer(0, 0, 1) = 0;",
                "registrar(0, 0, 1) = IN; tick(2) = 1; registrar(0, 0, 0) = EMPTY; registrar(0, 1, 0) = LEAVING;",
                "registrarTimer(0, 1, 0) = 1; tick(1) = 1; registrar(0, 1, 0) = EMPTY; registrar(0, 0, 1) = IN");
    }

    private static void leaveAllTimers() {
        String above = "if the leave-all timer of the port is above 0, it decreases by 1";
        Sentence.holds(TEXT, above, "0 stays 0 and sends nothing", Networks.TWO_BRIDGES,
                "setTimes(6, 0) = 4; tick(1) = 0; leaveAllTimer(0, 0) = 0; leaveAllTimer(0, 1) = 0;",
                "tick(100) = 0; leaveAllTimer(0, 0) = 0; leaveAllTimer(0, 1) = 0");
        Sentence.holds(TEXT, above, "200 becomes 199", Networks.TWO_BRIDGES,
                "setTimes(6, 200) = 4; tick(1) = 0; leaveAllTimer(0, 0) = 199; leaveAllTimer(0, 1) = 199;",
                "leaveAllTimer(1, 0) = 199; leaveAllTimer(1, 1) = 199");
        String due = "if it becomes 0, a leave-all is due at this port, and the timer starts again with the leave-all time";
        Sentence.holds(TEXT, due, "1: due in every tick", Networks.ONE_HOST,
                "setTimes(6, 1) = 1; tick(1) = 1; leaveAllTimer(0, 0) = 1; tick(1) = 1;",
                "leaveAllTimer(0, 0) = 1; tick(100) = 100; leaveAllTimer(0, 0) = 1");
        Sentence.holds(TEXT, due, "2: due in every second tick", Networks.ONE_HOST,
                "setTimes(6, 2) = 1; tick(1) = 0; leaveAllTimer(0, 0) = 1; tick(1) = 1;",
                "leaveAllTimer(0, 0) = 2; tick(1) = 0; leaveAllTimer(0, 0) = 1; tick(1) = 1; tick(100) = 50");
        Sentence.holds(TEXT, due, "200: due in the 200th tick, not before", Networks.ONE_HOST,
                "setTimes(6, 200) = 1; tick(100) = 0; tick(99) = 0; leaveAllTimer(0, 0) = 1; tick(1) = 1;",
                "leaveAllTimer(0, 0) = 200; tick(100) = 0; tick(99) = 0; leaveAllTimer(0, 0) = 1; tick(1) = 1");
        Sentence.holds(TEXT, due, "at this port alone", Networks.ONE_HOST,
                "setTimes(6, 5) = 1; tick(2) = 0; addHost(0, 1) = 1; tick(2) = 0; leaveAllTimer(0, 0) = 1;",
                "leaveAllTimer(0, 1) = 3; tick(1) = 1; leaveAllTimer(0, 0) = 5; leaveAllTimer(0, 1) = 2;",
                "tick(1) = 0; tick(1) = 1; leaveAllTimer(0, 1) = 5; leaveAllTimer(0, 0) = 3");
        Sentence.holds(TEXT, due, "a timer that ends in this tick has ended before the leave-all",
                Networks.ONE_HOST, "setTimes(1, 1) = 1; join(0, 0) = 1; tick(1) = 2; registrar(0, 0, 0) = IN;",
                "setSilent(0, true) = 1; tick(1) = 1; registrarTimer(0, 0, 0) = 1; tick(1) = 1;",
                "registrar(0, 0, 0) = EMPTY; registrarTimer(0, 0, 0) = 0; tick(1) = 1; registrar(0, 0, 0) = EMPTY");
    }

    private static void onlyConnectedPorts() {
        Sentence.holds(TEXT, "only connected ports take part", "free ports have no timers and send nothing",
                Networks.ONE_HOST, "setTimes(6, 3) = 1; join(0, 0) = 1; tick(2) = 2; tick(1) = 1;",
                "leaveAllTimer(0, 1) = 0; leaveAllTimer(0, 2) = 0; leaveAllTimer(0, 3) = 0;",
                "applicant(0, 1, 0) = OBSERVER; applicant(0, 3, 0) = OBSERVER; setTimes(6, 0) = 1; tick(9) = 1");
        Sentence.holds(TEXT, "only connected ports take part", "ports that were cut send nothing",
                DECLARED, "setTimes(6, 2) = 4; tick(1) = 0; cut(0, 0) = 0; tick(1) = 3;",
                "leaveAllTimer(0, 0) = 0; leaveAllTimer(1, 0) = 0; applicant(1, 0, 2) = OBSERVER");
        Sentence.holds(TEXT, "only connected ports take part", "the last port of the last bridge does",
                Networks.FIVE_BRIDGES, "addHost(4, 3) = 0; addHost(4, 0) = 1; setTimes(2, 3) = 2; join(0, 3) = 1;",
                "tick(2) = 3; applicant(4, 0, 3) = ANXIOUS; tick(1) = 3; leaveAllTimer(4, 3) = 3;",
                "registrar(4, 3, 3) = LEAVING");
    }

    private static void wantedGroups() {
        String quote = "the group is wanted if it is registered at another connected port of the same bridge";
        Sentence.holds(TEXT, quote, "not by its own port", Networks.TWO_HOSTS,
                "join(0, 0) = 1; tick(9) = 4; applicant(0, 0, 0) = OBSERVER; applicant(0, 1, 0) = QUIET");
        Sentence.holds(TEXT, quote, "by two ports, each for the other", Networks.TWO_HOSTS,
                "join(0, 0) = 1; join(1, 0) = 1; tick(9) = 8; applicant(0, 0, 0) = QUIET; applicant(0, 1, 0) = QUIET");
        Sentence.holds(TEXT, quote, "by the first port for the last, and by the last for the first",
                "addBridge() = 0; addHost(0, 0) = 0; addHost(0, 3) = 1; join(0, 3) = 1; join(1, 0) = 1;",
                "tick(2) = 6; applicant(0, 3, 3) = ANXIOUS; applicant(0, 0, 0) = ANXIOUS;",
                "applicant(0, 0, 3) = OBSERVER; applicant(0, 3, 0) = OBSERVER");
        Sentence.holds(TEXT, quote, "not by another bridge that no link leads to",
                Networks.FIVE_BRIDGES, "addHost(0, 3) = 0; addHost(1, 0) = 1; addHost(2, 0) = 2; join(1, 1) = 1;",
                "tick(9) = 2; applicant(0, 3, 1) = OBSERVER; applicant(2, 0, 1) = OBSERVER");
        Sentence.holds(TEXT, quote, "not by a port that was cut", DECLARED,
                "applicant(0, 1, 2) = QUIET; cut(1, 0) = 0; tick(1) = 1; applicant(0, 1, 2) = OBSERVER");
        Sentence.holds(TEXT, quote, "as long as it leaves there, up to the tick in which it is empty",
                Networks.TWO_HOSTS, "setTimes(1, 0) = 2; join(0, 0) = 1; tick(4) = 4; leave(0, 0) = 1; tick(1) = 1;",
                "registrar(0, 0, 0) = LEAVING; applicant(0, 1, 0) = QUIET; tick(1) = 1;",
                "registrar(0, 0, 0) = EMPTY; applicant(0, 1, 0) = OBSERVER");
        Sentence.holds(TEXT, quote, "as long as one of two ports has it", Networks.TWO_HOSTS,
                "addHost(0, 2) = 2; setTimes(1, 0) = 3; join(0, 0) = 1; join(1, 0) = 1; tick(9) = 10;",
                "leave(0, 0) = 1; tick(9) = 2; applicant(0, 2, 0) = QUIET; applicant(0, 1, 0) = OBSERVER;",
                "applicant(0, 0, 0) = QUIET; leave(1, 0) = 1; tick(9) = 3; applicant(0, 2, 0) = OBSERVER;",
                "applicant(0, 0, 0) = OBSERVER");
    }

    private static void propagation() {
        String wanted = "If it is wanted and the applicant is an OBSERVER or a LEAVER, the applicant becomes ANXIOUS with 2 joins to send.";
        Sentence.holds(TEXT, wanted, "an observer sends two joins, in the tick after it is registered and the next",
                Networks.TWO_HOSTS, "join(0, 0) = 1; tick(1) = 1; applicant(0, 1, 0) = OBSERVER; tick(1) = 2;",
                "applicant(0, 1, 0) = ANXIOUS; tick(1) = 1; applicant(0, 1, 0) = QUIET; tick(50) = 0");
        Sentence.holds(TEXT, wanted, "an observer that has declared before does so again",
                Networks.TWO_HOSTS, "setTimes(1, 0) = 2; join(0, 0) = 1; tick(5) = 4; leave(0, 0) = 1; tick(2) = 2;",
                "applicant(0, 1, 0) = OBSERVER; join(0, 0) = 1; tick(5) = 4; applicant(0, 1, 0) = QUIET");
        Sentence.holds(TEXT, wanted, "others stay: a second registrar adds no join",
                Networks.TWO_HOSTS, "addHost(0, 2) = 2; join(0, 0) = 1; tick(1) = 1; join(1, 0) = 1; tick(1) = 4;",
                "applicant(0, 2, 0) = ANXIOUS; tick(1) = 4; applicant(0, 2, 0) = QUIET; tick(1) = 1;",
                "applicant(0, 2, 0) = QUIET; applicant(0, 0, 0) = QUIET; tick(50) = 0");
        String notWanted = "If it is not wanted and the applicant is ANXIOUS or QUIET, the applicant becomes a LEAVER.";
        Sentence.holds(TEXT, notWanted, "a quiet one sends a leave in the same tick",
                DECLARED, "setTimes(1, 0) = 4; leave(1, 2) = 1; tick(1) = 1; applicant(1, 0, 2) = QUIET; tick(1) = 1;",
                "applicant(1, 0, 2) = OBSERVER; registrar(0, 0, 2) = LEAVING");
        Sentence.holds(TEXT, notWanted, "an anxious one sends a leave and no second join",
                Networks.TWO_BRIDGES, "setTimes(1, 0) = 4; join(0, 0) = 1; tick(1) = 1; leave(0, 0) = 1; tick(1) = 2;",
                "applicant(0, 0, 0) = ANXIOUS; registrar(1, 0, 0) = IN; tick(1) = 2;",
                "applicant(0, 0, 0) = OBSERVER; registrar(1, 0, 0) = LEAVING; tick(50) = 1");
        Sentence.holds(TEXT, notWanted, "an observer stays and sends nothing",
                Networks.TWO_HOSTS, "tick(50) = 0; applicant(0, 0, 0) = OBSERVER; registrar(0, 0, 0) = EMPTY");
    }

    private static void sendingALeaveAll() {
        String registrars = "when it does so, each of its registrars that is IN becomes LEAVING with the leave time as its timer";
        for (int time : new int[] {1, 6, 50}) {
            Sentence.holds(TEXT, registrars, "leave time " + time, Networks.ONE_HOST,
                    "join(0, 0) = 1; join(0, 3) = 1; tick(2) = 4; setTimes(" + time + ", 1) = 1; tick(1) = 1;",
                    "registrar(0, 0, 0) = LEAVING; registrarTimer(0, 0, 0) = " + time + ";",
                    "registrar(0, 0, 3) = LEAVING; registrarTimer(0, 0, 3) = " + time + ";",
                    "registrar(0, 0, 1) = EMPTY; registrarTimer(0, 0, 1) = 0");
        }
        Sentence.holds(TEXT, registrars, "one that leaves already keeps its timer",
                Networks.ONE_HOST, "join(0, 0) = 1; tick(2) = 2; leave(0, 0) = 1; tick(2) = 1;",
                "registrarTimer(0, 0, 0) = 5; setTimes(50, 1) = 1; tick(1) = 1; registrarTimer(0, 0, 0) = 4;",
                "tick(3) = 3; registrarTimer(0, 0, 0) = 1; tick(1) = 1; registrar(0, 0, 0) = EMPTY");
        Sentence.holds(TEXT, registrars, "not in a tick in which none is due",
                Networks.ONE_HOST, "join(0, 0) = 1; tick(2) = 2; setTimes(6, 2) = 1; tick(1) = 0;",
                "registrar(0, 0, 0) = IN; tick(1) = 1; registrar(0, 0, 0) = LEAVING; tick(1) = 1;",
                "registrar(0, 0, 0) = IN; registrarTimer(0, 0, 0) = 0");
        String applicants = "each of its applicants that is QUIET becomes ANXIOUS with 1 join to send";
        Sentence.holds(TEXT, applicants, "which it sends in the same tick",
                Networks.TWO_HOSTS, "join(0, 0) = 1; join(0, 3) = 1; tick(5) = 8; setTimes(6, 1) = 2; tick(1) = 4;",
                "applicant(0, 1, 0) = QUIET; applicant(0, 1, 3) = QUIET; setTimes(6, 0) = 2; tick(1) = 2;",
                "applicant(0, 1, 0) = QUIET; applicant(0, 1, 1) = OBSERVER");
        Sentence.holds(TEXT, applicants, "an anxious one with 2 joins keeps both",
                Networks.TWO_HOSTS, "setTimes(6, 2) = 2; join(0, 0) = 1; tick(1) = 1; tick(1) = 4;",
                "applicant(0, 1, 0) = ANXIOUS; setTimes(6, 0) = 2; tick(1) = 2; applicant(0, 1, 0) = QUIET; tick(9) = 0");
        Sentence.holds(TEXT, applicants, "an anxious one with 1 join keeps it, and gets no more",
                Networks.TWO_HOSTS, "setTimes(6, 3) = 2; join(0, 0) = 1; tick(2) = 3; applicant(0, 1, 0) = ANXIOUS;",
                "tick(1) = 3; applicant(0, 1, 0) = QUIET; setTimes(6, 0) = 2; tick(9) = 1");
        Sentence.holds(TEXT, "Then (for hosts only this)", "hosts send no leave-all",
                Networks.TWO_HOSTS, "setTimes(6, 1) = 2; tick(1) = 2; tick(10) = 20");
    }

    private static void sendingJoinsAndLeaves() {
        Sentence.holds(TEXT, "then the hosts by ascending number, except silent ones",
                "a silent host sends neither a join nor a leave",
                Networks.TWO_HOSTS, "join(0, 0) = 1; join(1, 1) = 1; setSilent(1, true) = 1; tick(1) = 1;",
                "registrar(0, 1, 1) = EMPTY; hostApplicant(1, 1) = ANXIOUS; leave(1, 1) = 1; tick(1) = 2;",
                "hostApplicant(1, 1) = LEAVER; setSilent(1, false) = 1; tick(1) = 2; hostApplicant(1, 1) = OBSERVER");
        Sentence.holds(TEXT, "an ANXIOUS applicant sends a join, and if that was its last join to send, it becomes QUIET",
                "the first of 2 is not the last, the second is",
                Networks.ONE_HOST, "join(0, 0) = 1; join(0, 3) = 1; tick(1) = 2; hostApplicant(0, 0) = ANXIOUS;",
                "hostApplicant(0, 3) = ANXIOUS; join(0, 1) = 1; tick(1) = 3; hostApplicant(0, 0) = QUIET;",
                "hostApplicant(0, 3) = QUIET; hostApplicant(0, 1) = ANXIOUS; tick(1) = 1; hostApplicant(0, 1) = QUIET");
        Sentence.holds(TEXT, "a LEAVER sends a leave and becomes an OBSERVER", "one leave, and none after it",
                Networks.ONE_HOST, "join(0, 3) = 1; leave(0, 3) = 1; join(0, 0) = 1; tick(2) = 3; leave(0, 0) = 1;",
                "tick(1) = 1; hostApplicant(0, 0) = OBSERVER; registrar(0, 0, 0) = LEAVING; tick(50) = 0");
    }

    private static void receivingALeaveAll() {
        String quote = "each applicant of the receiving port or host that is QUIET becomes ANXIOUS with 1 join to send";
        Sentence.holds(TEXT, quote, "a host",
                Networks.ONE_HOST, "join(0, 0) = 1; tick(2) = 2; setTimes(6, 1) = 1; tick(1) = 1;",
                "hostApplicant(0, 0) = ANXIOUS; hostApplicant(0, 1) = OBSERVER; setTimes(6, 0) = 1; tick(9) = 1;",
                "hostApplicant(0, 0) = QUIET");
        Sentence.holds(TEXT, quote, "a host that has become quiet in the same tick",
                Networks.ONE_HOST, "setTimes(6, 2) = 1; join(0, 0) = 1; tick(2) = 3; hostApplicant(0, 0) = ANXIOUS;",
                "setTimes(6, 0) = 1; tick(9) = 1; hostApplicant(0, 0) = QUIET");
        Sentence.holds(TEXT, quote, "a host that is anxious with 2 joins keeps both",
                Networks.ONE_HOST, "setTimes(6, 1) = 1; setSilent(0, true) = 1; join(0, 0) = 1; tick(3) = 3;",
                "hostApplicant(0, 0) = ANXIOUS; setTimes(6, 0) = 1; setSilent(0, false) = 1; tick(9) = 2");
        Sentence.holds(TEXT, quote, "a leaver and an observer stay what they are",
                Networks.ONE_HOST, "join(0, 0) = 1; tick(2) = 2; setTimes(6, 1) = 1; setSilent(0, true) = 1;",
                "leave(0, 0) = 1; tick(3) = 3; hostApplicant(0, 0) = LEAVER; hostApplicant(0, 3) = OBSERVER");
        Sentence.holds(TEXT, quote, "a port, also if it has sent a leave-all itself",
                DECLARED, "setTimes(6, 1) = 4; tick(1) = 6; applicant(1, 0, 2) = ANXIOUS; setTimes(6, 0) = 4;",
                "tick(1) = 2; applicant(1, 0, 2) = QUIET; tick(9) = 0");
        Sentence.holds(TEXT, quote, "a port to which no leave-all comes stays quiet",
                DECLARED, "setTimes(6, 1) = 4; loseNext(0, 0) = 1; tick(1) = 6; applicant(1, 0, 2) = QUIET");
        Sentence.holds(TEXT, "A leave-all: each registrar of the receiving port that is IN becomes LEAVING with the leave time as its timer",
                "one that is empty stays so, one that leaves keeps its timer",
                DECLARED, "setTimes(9, 0) = 4; leave(1, 2) = 1; tick(10) = 2; registrarTimer(0, 0, 2) = 9;",
                "setTimes(50, 1) = 4; tick(1) = 5; registrarTimer(0, 0, 2) = 8; registrar(0, 0, 0) = EMPTY;",
                "registrarTimer(0, 0, 0) = 0; registrar(1, 0, 2) = EMPTY");
    }

    private static void receivingJoinsAndLeaves() {
        String join = "A join for a group: the registrar of the receiving port becomes IN.";
        Sentence.holds(TEXT, join, "whether it was empty, in or leaving; of this group alone",
                Networks.ONE_HOST, "join(0, 1) = 1; tick(1) = 1; registrar(0, 0, 1) = IN; registrar(0, 0, 0) = EMPTY;",
                "registrar(0, 0, 2) = EMPTY; tick(1) = 1; registrar(0, 0, 1) = IN; leave(0, 1) = 1; tick(1) = 1;",
                "registrar(0, 0, 1) = LEAVING; join(0, 1) = 1; tick(1) = 1; registrar(0, 0, 1) = IN;",
                "registrarTimer(0, 0, 1) = 0");
        String leave = "A leave for a group: the registrar of the receiving port, if it is IN, becomes LEAVING with the leave time as its timer.";
        for (int time : new int[] {1, 50}) {
            Sentence.holds(TEXT, leave, "in, leave time " + time, Networks.ONE_HOST,
                    "setTimes(" + time + ", 0) = 1; join(0, 1) = 1; join(0, 2) = 1; tick(2) = 4; leave(0, 1) = 1;",
                    "tick(1) = 1; registrar(0, 0, 1) = LEAVING; registrarTimer(0, 0, 1) = " + time + ";",
                    "registrar(0, 0, 2) = IN; registrarTimer(0, 0, 2) = 0");
        }
        Sentence.holds(TEXT, leave, "one that leaves keeps its timer",
                Networks.ONE_HOST, "join(0, 1) = 1; tick(2) = 2; leave(0, 1) = 1; tick(2) = 1; join(0, 1) = 1;",
                "leave(0, 1) = 1; tick(1) = 1; registrar(0, 0, 1) = LEAVING; registrarTimer(0, 0, 1) = 4");
        Sentence.holds(TEXT, leave, "an empty one stays empty",
                Networks.ONE_HOST, "join(0, 1) = 1; leave(0, 1) = 1; tick(1) = 1; registrar(0, 0, 1) = EMPTY;",
                "registrarTimer(0, 0, 1) = 0; isSettled() = 1");
        Sentence.holds(TEXT, "Hosts have no registrars and ignore joins and leaves.", "in every state",
                Networks.TWO_HOSTS, "setTimes(1, 0) = 2; addHost(0, 2) = 2; join(1, 0) = 1; setSilent(1, true) = 1;",
                "join(0, 0) = 1; tick(5) = 6; hostApplicant(1, 0) = ANXIOUS; hostApplicant(2, 0) = OBSERVER;",
                "leave(1, 0) = 1; leave(0, 0) = 1; tick(5) = 3; hostApplicant(1, 0) = LEAVER;",
                "hostApplicant(2, 0) = OBSERVER; setSilent(1, false) = 1; tick(1) = 1; join(1, 0) = 1; tick(5) = 6;",
                "join(0, 0) = 1; tick(5) = 4; leave(0, 0) = 1; tick(5) = 2; hostApplicant(1, 0) = QUIET");
    }

    private static void order() {
        Sentence.holds(TEXT, "After all have sent, each message is received at the other end of the link",
                "a host answers a leave-all in the next tick",
                Networks.ONE_HOST, "setTimes(1, 4) = 1; join(0, 0) = 1; tick(3) = 2; tick(1) = 1;",
                "registrar(0, 0, 0) = LEAVING; tick(1) = 1; registrar(0, 0, 0) = IN");
        Sentence.holds(TEXT, "After all have sent, each message is received at the other end of the link",
                "a join passes one bridge in a tick, in either direction",
                Networks.FIVE_IN_A_ROW, "addHost(0, 3) = 0; addHost(4, 3) = 1; join(0, 0) = 1; join(1, 3) = 1;",
                "tick(1) = 2; registrar(0, 3, 0) = IN; registrar(1, 0, 0) = EMPTY; tick(1) = 4;",
                "registrar(1, 0, 0) = IN; registrar(2, 0, 0) = EMPTY; registrar(3, 1, 3) = IN;",
                "registrar(2, 1, 3) = EMPTY; tick(3) = 12; registrar(4, 0, 0) = IN; registrar(0, 0, 3) = IN;",
                "applicant(0, 3, 3) = OBSERVER; applicant(4, 3, 0) = OBSERVER");
        Sentence.holds(TEXT, "in the order in which the sender sent them", "a join behind a leave-all",
                DECLARED, "setTimes(6, 1) = 4; tick(1) = 6; registrar(0, 0, 2) = IN; registrarTimer(0, 0, 2) = 0");
        Sentence.holds(TEXT, "in the order in which the sender sent them", "a leave behind a leave-all",
                DECLARED, "setTimes(1, 0) = 4; leave(1, 2) = 1; tick(1) = 1; setTimes(7, 1) = 4; tick(1) = 6;",
                "registrar(1, 1, 2) = EMPTY; registrar(0, 0, 2) = LEAVING; registrarTimer(0, 0, 2) = 7");
    }

    private static void loss() {
        String lost = "All messages that a port sent in a tick are lost if it was marked for loss before the tick";
        Sentence.holds(TEXT, lost, "joins, of all groups",
                Networks.TWO_BRIDGES, "join(1, 0) = 1; join(1, 3) = 1; tick(1) = 2; loseNext(1, 0) = 1; tick(1) = 4;",
                "registrar(0, 0, 0) = EMPTY; registrar(0, 0, 3) = EMPTY; applicant(1, 0, 0) = ANXIOUS");
        Sentence.holds(TEXT, lost, "a leave",
                DECLARED, "setTimes(1, 0) = 4; leave(1, 2) = 1; tick(1) = 1; loseNext(1, 0) = 1; tick(1) = 1;",
                "applicant(1, 0, 2) = OBSERVER; registrar(0, 0, 2) = IN; tick(50) = 0; registrar(0, 0, 2) = IN");
        Sentence.holds(TEXT, lost, "a leave-all and the join behind it",
                DECLARED, "setTimes(6, 1) = 4; loseNext(1, 0) = 1; tick(1) = 6; registrar(0, 0, 2) = LEAVING;",
                "registrarTimer(0, 0, 2) = 6");
        Sentence.holds(TEXT, lost, "not those that the port at the other end sent",
                Networks.TWO_BRIDGES, "join(1, 0) = 1; tick(1) = 1; loseNext(0, 0) = 1; tick(1) = 2; registrar(0, 0, 0) = IN");
        Sentence.holds(TEXT, lost, "not those that the host beside it sent",
                Networks.TWO_BRIDGES, "join(1, 0) = 1; loseNext(1, 0) = 1; tick(1) = 1; registrar(1, 1, 0) = IN");
        String gone = "the mark is gone then, also if the port sent nothing";
        Sentence.holds(TEXT, gone, "it sent something",
                Networks.TWO_BRIDGES, "join(1, 0) = 1; tick(1) = 1; loseNext(1, 0) = 1; tick(1) = 2;",
                "loseNext(1, 0) = 1; tick(1) = 1; registrar(0, 0, 0) = EMPTY; loseNext(1, 0) = 1");
        Sentence.holds(TEXT, gone, "it sent nothing",
                Networks.TWO_BRIDGES, "loseNext(1, 0) = 1; loseNext(0, 0) = 1; tick(1) = 0; loseNext(1, 0) = 1;",
                "loseNext(0, 0) = 1");
        Sentence.holds(TEXT, gone, "it sent nothing, so what it sends later is not lost",
                Networks.TWO_BRIDGES, "join(1, 0) = 1; loseNext(1, 0) = 1; tick(1) = 1; tick(1) = 2;",
                "registrar(0, 0, 0) = IN");
        Sentence.holds(TEXT, gone, "within one call of tick",
                Networks.TWO_BRIDGES, "join(1, 0) = 1; loseNext(1, 0) = 1; tick(2) = 3; registrar(0, 0, 0) = IN");
    }

    private static void time() {
        Sentence.holds(TEXT, "The time grows by 1.", "with each tick, also if nothing is there",
                "time() = 0; tick(1) = 0; time() = 1; tick(1) = 0; time() = 2; tick(100) = 0; time() = 102");
    }
}
