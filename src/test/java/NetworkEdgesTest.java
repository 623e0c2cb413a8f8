/** The boundary cases that the document names for the network: "Network.", and promises 1 to 5. */
public final class NetworkEdgesTest {
    private static final int TEXT = Sentence.DESCRIPTION;

    // Both ends of the link have an applicant that is quiet and a registrar that is in.
    private static final String DECLARED = Networks.TWO_BRIDGES
            + "setTimes(5, 50) = 4; join(1, 2) = 1; join(0, 3) = 1; tick(10) = 12;";

    public static void main(String[] args) {
        howManyBridgesAndPorts();
        howManyHostsAndGroups();
        whatAPortIs();
        newObject();
        addBridge();
        connect();
        connectedAnew();
        connectUsedPorts();
        connectCycles();
        connectTwoErrors();
        cut();
        cutOnlyThere();
        cutErrors();
        addHost();
        addHostErrors();
        Script.end();
    }

    private static void howManyBridgesAndPorts() {
        Sentence.holds(TEXT, "There are up to 5 bridges, numbered from 0",
                "a bridge is there from its own addBridge on, the sixth never",
                "leaveAllTimer(0, 0) = NO_SUCH_PORT; addBridge() = 0; leaveAllTimer(0, 0) = 0;",
                "leaveAllTimer(1, 0) = NO_SUCH_PORT; addBridge() = 1; leaveAllTimer(1, 0) = 0;",
                "leaveAllTimer(2, 0) = NO_SUCH_PORT; addBridge() = 2; leaveAllTimer(2, 0) = 0;",
                "leaveAllTimer(3, 0) = NO_SUCH_PORT; addBridge() = 3; leaveAllTimer(3, 0) = 0;",
                "leaveAllTimer(4, 0) = NO_SUCH_PORT; addBridge() = 4; leaveAllTimer(4, 0) = 0;",
                "leaveAllTimer(5, 0) = NO_SUCH_PORT; addBridge() = FULL;",
                "leaveAllTimer(5, 0) = NO_SUCH_PORT; leaveAllTimer(-1, 0) = NO_SUCH_PORT");
        for (int bridge = 0; bridge < 5; bridge++) {
            Sentence.holds(TEXT, "each bridge has 4 ports, numbered from 0", "bridge " + bridge,
                    Networks.FIVE_BRIDGES,
                    "leaveAllTimer(" + bridge + ", -1) = NO_SUCH_PORT;",
                    "leaveAllTimer(" + bridge + ", 0) = 0; addHost(" + bridge + ", 0) = 0;",
                    "leaveAllTimer(" + bridge + ", 3) = 0; addHost(" + bridge + ", 3) = 1;",
                    "leaveAllTimer(" + bridge + ", 4) = NO_SUCH_PORT;",
                    "addHost(" + bridge + ", 4) = NO_SUCH_PORT");
        }
    }

    private static void howManyHostsAndGroups() {
        Sentence.holds(TEXT, "There are up to 8 hosts, numbered from 0",
                "a host is there from its own addHost on, the ninth never",
                Networks.FIVE_BRIDGES, "hostApplicant(0, 0) = NO_SUCH_HOST;",
                "addHost(0, 0) = 0; hostApplicant(0, 0) = OBSERVER; hostApplicant(1, 0) = NO_SUCH_HOST;",
                "addHost(0, 1) = 1; addHost(0, 2) = 2; addHost(0, 3) = 3; addHost(1, 0) = 4;",
                "addHost(1, 1) = 5; addHost(1, 2) = 6; hostApplicant(6, 0) = OBSERVER;",
                "hostApplicant(7, 0) = NO_SUCH_HOST; addHost(1, 3) = 7;",
                "hostApplicant(7, 0) = OBSERVER; hostApplicant(8, 0) = NO_SUCH_HOST;",
                "addHost(4, 3) = FULL; hostApplicant(8, 0) = NO_SUCH_HOST;",
                "hostApplicant(-1, 0) = NO_SUCH_HOST");
        Sentence.holds(TEXT, "There are 4 groups, numbered from 0", "hosts and ports have groups 0 to 3",
                Networks.ONE_HOST, "hostApplicant(0, -1) = NO_SUCH_GROUP; hostApplicant(0, 0) = OBSERVER;",
                "hostApplicant(0, 3) = OBSERVER; hostApplicant(0, 4) = NO_SUCH_GROUP;",
                "registrar(0, 0, -1) = NO_SUCH_GROUP; registrar(0, 0, 0) = EMPTY;",
                "registrar(0, 0, 3) = EMPTY; registrar(0, 0, 4) = NO_SUCH_GROUP;",
                "join(0, 0) = 1; join(0, 1) = 1; join(0, 2) = 1; join(0, 3) = 1; tick(2) = 8;",
                "registrar(0, 0, 0) = IN; registrar(0, 0, 1) = IN; registrar(0, 0, 2) = IN;",
                "registrar(0, 0, 3) = IN");
    }

    private static void whatAPortIs() {
        String quote = "A port is free, or connected to a port of another bridge by a link, or connected to a host.";
        Sentence.holds(TEXT, quote, "a free port can be either", Networks.FIVE_BRIDGES,
                "cut(4, 3) = NOT_LINKED; addHost(4, 3) = 0; connect(4, 2, 3, 3) = 1");
        Sentence.changesNothing(TEXT, quote, "a port with a link takes neither a link nor a host",
                Networks.BUSY, "addHost(0, 0) = PORT_USED; addHost(1, 0) = PORT_USED;",
                "connect(0, 0, 3, 1) = PORT_USED; connect(3, 1, 1, 0) = PORT_USED");
        Sentence.changesNothing(TEXT, quote, "a port with a host takes neither a link nor a host",
                Networks.BUSY, "addHost(0, 1) = PORT_USED; connect(0, 1, 3, 1) = PORT_USED;",
                "connect(3, 1, 0, 1) = PORT_USED");
        Sentence.holds(TEXT, "each is connected to one port for ever", "whatever happens",
                Networks.TWO_BRIDGES, "cut(0, 1) = NOT_LINKED; join(0, 0) = 1; tick(3) = 5;",
                "leave(0, 0) = 1; setSilent(0, true) = 1; tick(100) = 1; cut(0, 0) = 0;",
                "cut(0, 1) = NOT_LINKED; addHost(0, 1) = PORT_USED; setTimes(6, 0) = 2;",
                "connect(0, 1, 1, 0) = PORT_USED; distance(0, 0) = 1; setSilent(0, false) = 1;",
                "tick(1) = 2; registrar(0, 1, 0) = LEAVING");
        Sentence.holds(TEXT, "The links never form a cycle.", "no two of five bridges in a row",
                Networks.FIVE_IN_A_ROW, "connect(0, 3, 1, 3) = CYCLE; connect(0, 3, 2, 3) = CYCLE;",
                "connect(0, 3, 3, 3) = CYCLE; connect(0, 3, 4, 3) = CYCLE;",
                "connect(1, 3, 2, 3) = CYCLE; connect(1, 3, 3, 3) = CYCLE;",
                "connect(1, 3, 4, 3) = CYCLE; connect(2, 3, 3, 3) = CYCLE;",
                "connect(2, 3, 4, 3) = CYCLE; connect(3, 3, 4, 3) = CYCLE;",
                "connect(4, 3, 0, 3) = CYCLE; connect(3, 3, 0, 3) = CYCLE;",
                "setTimes(6, 0) = 8; cut(2, 0) = 3; connect(4, 3, 0, 3) = 4;",
                "connect(1, 1, 2, 0) = CYCLE");
    }

    private static void newObject() {
        Sentence.holds(1, "There are no bridges and hosts", "no method finds one",
                "connect(0, 0, 0, 1) = NO_SUCH_PORT; cut(0, 0) = NO_SUCH_PORT;",
                "addHost(0, 0) = NO_SUCH_PORT; setTimes(6, 0) = 0; join(0, 0) = NO_SUCH_HOST;",
                "leave(0, 0) = NO_SUCH_HOST; setSilent(0, false) = NO_SUCH_HOST;",
                "loseNext(0, 0) = NO_SUCH_PORT; registrar(0, 0, 0) = NO_SUCH_PORT;",
                "registrarTimer(0, 0, 0) = NO_SUCH_PORT; applicant(0, 0, 0) = NO_SUCH_PORT;",
                "hostApplicant(0, 0) = NO_SUCH_HOST; leaveAllTimer(0, 0) = NO_SUCH_PORT;",
                "isSettled() = 1; receivers(0, 0) = NO_SUCH_HOST; missedCount(0, 0) = NO_SUCH_HOST;",
                "needlessCount(0, 0) = NO_SUCH_HOST; distance(0, 0) = NO_SUCH_HOST; tick(100) = 0;",
                "addBridge() = 0; addHost(0, 0) = 0");
        Sentence.holds(1, "the time is 0", "as the first call", "time() = 0");
        Sentence.holds(1, "the leave time is 6", "a registrar leaves for six ticks",
                Networks.ONE_HOST, "join(0, 0) = 1; tick(2) = 2; leave(0, 0) = 1; tick(1) = 1;",
                "registrarTimer(0, 0, 0) = 6; tick(5) = 0; registrar(0, 0, 0) = LEAVING; tick(1) = 0;",
                "registrar(0, 0, 0) = EMPTY");
        Sentence.holds(1, "the leave-all time is 0 (no leave-all is ever due)", "at a link and at a host",
                Networks.TWO_BRIDGES, "leaveAllTimer(0, 0) = 0; leaveAllTimer(1, 0) = 0;",
                "leaveAllTimer(0, 1) = 0; tick(100) = 0; tick(100) = 0; tick(100) = 0;",
                "leaveAllTimer(0, 0) = 0; leaveAllTimer(0, 1) = 0");
        Sentence.changesNothing(1, "There are no bridges and hosts", "a refused call adds none", "",
                "connect(0, 0, 1, 0) = NO_SUCH_PORT; cut(0, 0) = NO_SUCH_PORT;",
                "addHost(0, 0) = NO_SUCH_PORT; setTimes(0, 200) = BAD_VALUE;",
                "setTimes(50, 201) = BAD_VALUE; join(0, 0) = NO_SUCH_HOST; leave(0, 0) = NO_SUCH_HOST;",
                "setSilent(0, true) = NO_SUCH_HOST; loseNext(0, 0) = NO_SUCH_PORT;",
                "tick(0) = BAD_VALUE; tick(101) = BAD_VALUE");
    }

    private static void addBridge() {
        Sentence.holds(2, "Adds a bridge with free ports.", "whatever the leave-all time is",
                "setTimes(6, 9) = 0; addBridge() = 0; leaveAllTimer(0, 0) = 0; leaveAllTimer(0, 3) = 0;",
                "setTimes(6, 9) = 0; tick(20) = 0; leaveAllTimer(0, 0) = 0; registrar(0, 0, 0) = EMPTY;",
                "registrarTimer(0, 3, 3) = 0; applicant(0, 3, 3) = OBSERVER; cut(0, 0) = NOT_LINKED;",
                "addHost(0, 0) = 0; addHost(0, 1) = 1; addHost(0, 2) = 2; addHost(0, 3) = 3");
        Sentence.holds(2, "Adds a bridge with free ports.", "the fifth as the first",
                Networks.FIVE_BRIDGES, "setTimes(6, 9) = 0; addHost(4, 0) = 0; addHost(4, 1) = 1;",
                "addHost(4, 2) = 2; connect(4, 3, 0, 0) = 1");
        Sentence.holds(2, "Returns the number of the bridge", "0 to 4, also between other calls",
                "addBridge() = 0; addHost(0, 0) = 0; addBridge() = 1; connect(0, 1, 1, 0) = 1;",
                "addBridge() = 2; cut(0, 1) = 0; tick(1) = 0; addBridge() = 3; addBridge() = 4");
        Sentence.holds(2, "FULL if there are 5 bridges", "the fifth is the last; a cut makes no room",
                Networks.FIVE_IN_A_ROW, "addBridge() = FULL; addBridge() = FULL; cut(3, 1) = 3;",
                "addBridge() = FULL; leaveAllTimer(5, 0) = NO_SUCH_PORT");
        Sentence.changesNothing(2, "FULL if there are 5 bridges", "nothing has changed",
                Networks.FULL_AND_BUSY, "addBridge() = FULL");
        Sentence.changesNothing(2, "FULL if there are 5 bridges", "nothing has changed without links",
                Networks.FIVE_BRIDGES, "addBridge() = FULL");
    }

    private static void connect() {
        Sentence.holds(3, "Connects two ports by a link.", "the first and the last port of all",
                Networks.FIVE_BRIDGES, "connect(0, 0, 4, 3) = 1; addHost(0, 1) = 0; addHost(4, 0) = 1;",
                "distance(0, 1) = 2; join(0, 3) = 1; tick(2) = 3; registrar(4, 3, 3) = IN;",
                "receivers(1, 3) = 1; cut(4, 3) = 0");
        Sentence.holds(3, "their leave-all timers start with the leave-all time", "0",
                Networks.TWO_BRIDGES, "addBridge() = 2; setTimes(6, 0) = 4; connect(1, 2, 2, 3) = 2;",
                "leaveAllTimer(1, 2) = 0; leaveAllTimer(2, 3) = 0; tick(5) = 0");
        Sentence.holds(3, "their leave-all timers start with the leave-all time", "1 and no other port",
                Networks.TWO_BRIDGES, "addBridge() = 2; setTimes(6, 200) = 4; tick(9) = 0;",
                "connect(1, 2, 2, 3) = 2; leaveAllTimer(1, 2) = 200; leaveAllTimer(2, 3) = 200;",
                "leaveAllTimer(0, 0) = 191; leaveAllTimer(1, 1) = 191; leaveAllTimer(2, 0) = 0;",
                "setTimes(6, 1) = 6; cut(2, 3) = 1; connect(1, 3, 2, 0) = 2;",
                "leaveAllTimer(1, 3) = 1; leaveAllTimer(2, 0) = 1; leaveAllTimer(2, 3) = 0; tick(1) = 6");
        Sentence.holds(3, "Returns the number of links", "1 to 4, hosts are no links",
                Networks.FIVE_BRIDGES, "addHost(0, 1) = 0; connect(0, 0, 1, 0) = 1; addHost(1, 2) = 1;",
                "connect(2, 0, 3, 0) = 2; connect(3, 1, 4, 0) = 3; connect(4, 1, 1, 1) = 4;",
                "cut(3, 0) = 3; connect(2, 0, 1, 3) = 4");
        Sentence.changesNothing(3, "NO_SUCH_PORT", "each argument, on each side",
                Networks.BUSY, "connect(-1, 1, 2, 2) = NO_SUCH_PORT; connect(4, 1, 2, 2) = NO_SUCH_PORT;",
                "connect(3, -1, 2, 2) = NO_SUCH_PORT; connect(3, 4, 2, 2) = NO_SUCH_PORT;",
                "connect(2, 2, -1, 1) = NO_SUCH_PORT; connect(2, 2, 4, 1) = NO_SUCH_PORT;",
                "connect(2, 2, 3, -1) = NO_SUCH_PORT; connect(2, 2, 3, 4) = NO_SUCH_PORT");
        Sentence.holds(3, "NO_SUCH_PORT", "the last bridge and the last port that there are",
                Networks.BUSY, "connect(3, 3, 2, 3) = 3");
    }

    private static void connectedAnew() {
        String quote = "All registrars of both ports are EMPTY, all their applicants are OBSERVERs";
        Sentence.holds(3, quote, "also if the ports were linked before",
                DECLARED, "registrar(0, 0, 2) = IN; registrar(1, 0, 3) = IN; applicant(0, 0, 3) = QUIET;",
                "applicant(1, 0, 2) = QUIET; cut(0, 0) = 0; connect(1, 0, 0, 0) = 1;",
                "registrar(0, 0, 2) = EMPTY; registrarTimer(0, 0, 2) = 0; registrar(1, 0, 3) = EMPTY;",
                "registrarTimer(1, 0, 3) = 0; applicant(0, 0, 3) = OBSERVER; applicant(1, 0, 2) = OBSERVER");
        Sentence.holds(3, quote, "though the group is registered beside the port",
                Networks.TWO_HOSTS, "addBridge() = 1; join(0, 0) = 1; join(1, 3) = 1; tick(5) = 8;",
                "connect(0, 3, 1, 0) = 1; applicant(0, 3, 0) = OBSERVER; applicant(0, 3, 3) = OBSERVER;",
                "registrar(1, 0, 0) = EMPTY; tick(1) = 2; applicant(0, 3, 0) = ANXIOUS; registrar(1, 0, 0) = IN");
        Sentence.holds(3, quote, "and have two joins to send, not those of the link before",
                Networks.TWO_BRIDGES, "join(0, 0) = 1; tick(2) = 3; applicant(0, 0, 0) = ANXIOUS;",
                "cut(0, 0) = 0; connect(0, 0, 1, 0) = 1; applicant(0, 0, 0) = OBSERVER; tick(1) = 1;",
                "applicant(0, 0, 0) = ANXIOUS; cut(1, 0) = 0; connect(0, 0, 1, 0) = 1; tick(2) = 3;",
                "applicant(0, 0, 0) = QUIET");
    }

    private static void connectUsedPorts() {
        String quote = "PORT_USED if one of the ports is not free";
        Sentence.changesNothing(3, quote, "a link at the first, the second, both",
                Networks.BUSY, "connect(1, 0, 3, 1) = PORT_USED; connect(3, 1, 1, 0) = PORT_USED;",
                "connect(0, 0, 3, 3) = PORT_USED; connect(3, 3, 0, 0) = PORT_USED;",
                "connect(0, 0, 2, 0) = PORT_USED");
        Sentence.changesNothing(3, quote, "a host at the first, the second, both",
                Networks.BUSY, "connect(0, 1, 3, 1) = PORT_USED; connect(3, 1, 0, 1) = PORT_USED;",
                "connect(3, 0, 2, 2) = PORT_USED; connect(2, 2, 3, 0) = PORT_USED;",
                "connect(3, 0, 0, 1) = PORT_USED");
        Sentence.holds(3, quote, "the ports beside them are free, and after a cut these are too",
                Networks.BUSY, "connect(3, 1, 0, 3) = 3; cut(0, 0) = 2; connect(0, 0, 1, 0) = 3");
    }

    private static void connectCycles() {
        Sentence.changesNothing(3, "CYCLE if both bridges are the same", "two ports, and one port twice",
                Networks.BUSY, "connect(3, 1, 3, 2) = CYCLE; connect(3, 2, 3, 1) = CYCLE;",
                "connect(3, 3, 3, 3) = CYCLE; connect(0, 3, 0, 3) = CYCLE; connect(2, 2, 2, 3) = CYCLE");
        Sentence.changesNothing(3, "CYCLE if both bridges are the same", "the first and the last bridge",
                Networks.FIVE_BRIDGES, "connect(0, 0, 0, 3) = CYCLE; connect(0, 0, 0, 0) = CYCLE;",
                "connect(4, 3, 4, 0) = CYCLE; connect(4, 3, 4, 3) = CYCLE");
        Sentence.changesNothing(3, "or are connected by links already", "by one link, by two, by three, by four",
                Networks.FIVE_IN_A_ROW, "connect(0, 3, 1, 3) = CYCLE; connect(1, 3, 0, 3) = CYCLE;",
                "connect(0, 3, 2, 3) = CYCLE; connect(2, 3, 0, 3) = CYCLE;",
                "connect(0, 3, 3, 3) = CYCLE; connect(3, 3, 0, 3) = CYCLE;",
                "connect(0, 3, 4, 3) = CYCLE; connect(4, 3, 0, 3) = CYCLE");
        Sentence.changesNothing(3, "or are connected by links already", "while something goes on",
                Networks.FULL_AND_BUSY, "connect(0, 3, 1, 3) = CYCLE; connect(3, 3, 0, 3) = CYCLE");
        Sentence.holds(3, "or are connected by links already", "no longer after a cut between them",
                Networks.FIVE_IN_A_ROW, "cut(2, 1) = 3; connect(0, 3, 2, 3) = CYCLE;",
                "connect(3, 3, 4, 3) = CYCLE; connect(0, 3, 4, 3) = 4; connect(2, 1, 3, 0) = CYCLE");
    }

    private static void connectTwoErrors() {
        String quote = "Returns the number of links; NO_SUCH_PORT; PORT_USED if one of the ports is not free; "
                + "CYCLE if both bridges are the same or are connected by links already.";
        Sentence.changesNothing(3, quote, "NO_SUCH_PORT before PORT_USED",
                Networks.BUSY, "connect(0, 0, 3, 4) = NO_SUCH_PORT; connect(0, 1, 4, 0) = NO_SUCH_PORT;",
                "connect(3, 4, 0, 0) = NO_SUCH_PORT; connect(4, 0, 0, 1) = NO_SUCH_PORT");
        Sentence.changesNothing(3, quote, "NO_SUCH_PORT before CYCLE",
                Networks.BUSY, "connect(0, 3, 0, 4) = NO_SUCH_PORT; connect(0, -1, 0, 3) = NO_SUCH_PORT;",
                "connect(0, 3, 1, 4) = NO_SUCH_PORT; connect(1, 4, 0, 3) = NO_SUCH_PORT;",
                "connect(4, 0, 4, 0) = NO_SUCH_PORT; connect(-1, 0, -1, 0) = NO_SUCH_PORT");
        Sentence.changesNothing(3, quote, "PORT_USED before CYCLE",
                Networks.BUSY, "connect(0, 0, 0, 3) = PORT_USED; connect(0, 3, 0, 0) = PORT_USED;",
                "connect(0, 1, 0, 3) = PORT_USED; connect(0, 3, 0, 1) = PORT_USED;",
                "connect(0, 0, 0, 0) = PORT_USED; connect(0, 0, 1, 0) = PORT_USED;",
                "connect(0, 3, 1, 0) = PORT_USED; connect(1, 0, 0, 3) = PORT_USED;",
                "connect(0, 1, 2, 3) = PORT_USED; connect(2, 3, 0, 1) = PORT_USED");
        Sentence.changesNothing(3, quote, "all three at once",
                Networks.BUSY, "connect(0, 0, 0, 4) = NO_SUCH_PORT; connect(0, -1, 0, 1) = NO_SUCH_PORT;",
                "connect(1, 0, 0, 4) = NO_SUCH_PORT");
    }

    private static void cut() {
        for (String call : new String[] {"cut(0, 0) = 0;", "cut(1, 0) = 0;"}) {
            Sentence.holds(4, "At both of its ports, all registrars become EMPTY", "those that are in, " + call,
                    DECLARED, call, "registrar(0, 0, 2) = EMPTY; registrar(1, 0, 3) = EMPTY");
            Sentence.holds(4, "At both of its ports, all registrars become EMPTY", "those that leave, " + call,
                    DECLARED, "setTimes(1, 0) = 4; leave(0, 3) = 1; leave(1, 2) = 1; tick(2) = 4;",
                    "registrar(0, 0, 2) = LEAVING; registrar(1, 0, 3) = LEAVING;", call,
                    "registrar(0, 0, 2) = EMPTY; registrar(1, 0, 3) = EMPTY");
            Sentence.holds(4, "all applicants become OBSERVERs", "those that are quiet, " + call,
                    DECLARED, call, "applicant(0, 0, 3) = OBSERVER; applicant(1, 0, 2) = OBSERVER;",
                    "tick(1) = 2; applicant(0, 0, 3) = OBSERVER; applicant(1, 0, 2) = OBSERVER");
            Sentence.holds(4, "all applicants become OBSERVERs", "those that are anxious, " + call,
                    Networks.TWO_BRIDGES, "join(0, 0) = 1; join(1, 3) = 1; tick(2) = 6;",
                    "applicant(0, 0, 0) = ANXIOUS; applicant(1, 0, 3) = ANXIOUS;", call,
                    "applicant(0, 0, 0) = OBSERVER; applicant(1, 0, 3) = OBSERVER; tick(10) = 0");
            Sentence.holds(4, "all timers become 0", "and stay so, " + call,
                    DECLARED, "setTimes(2, 50) = 4; leave(0, 3) = 1; leave(1, 2) = 1; tick(3) = 4;",
                    "registrarTimer(0, 0, 2) = 2; registrarTimer(1, 0, 3) = 2; leaveAllTimer(0, 0) = 47;",
                    "leaveAllTimer(1, 0) = 47;", call, "registrarTimer(0, 0, 2) = 0;",
                    "registrarTimer(1, 0, 3) = 0; leaveAllTimer(0, 0) = 0; leaveAllTimer(1, 0) = 0;",
                    "tick(1) = 2; registrarTimer(0, 0, 2) = 0; leaveAllTimer(0, 0) = 0;",
                    "leaveAllTimer(1, 0) = 0; setTimes(2, 9) = 2; leaveAllTimer(0, 0) = 0");
            Sentence.holds(4, "marks for loss are removed", "at both ports, " + call,
                    DECLARED, "loseNext(0, 0) = 1; loseNext(1, 0) = 1;", call, "connect(0, 0, 1, 0) = 1;",
                    "tick(1) = 4; registrar(0, 0, 2) = IN; registrar(1, 0, 3) = IN");
            Sentence.holds(4, "marks for loss are removed", "so that they can be marked again, " + call,
                    DECLARED, "loseNext(0, 0) = 1; loseNext(1, 0) = 1;", call, "connect(0, 0, 1, 0) = 1;",
                    "loseNext(0, 0) = 1; loseNext(1, 0) = 1");
            Sentence.holds(4, "the ports are free", "both, " + call,
                    DECLARED, call, "setTimes(6, 0) = 2; cut(0, 0) = NOT_LINKED; cut(1, 0) = NOT_LINKED;",
                    "loseNext(0, 0) = NOT_LINKED; loseNext(1, 0) = NOT_LINKED; distance(0, 1) = 0;",
                    "addHost(0, 0) = 2; addHost(1, 0) = 3; connect(0, 2, 1, 2) = 1");
        }
        Sentence.holds(4, "Returns the number of links that are left", "3 to 0, at either end",
                Networks.FIVE_IN_A_ROW, "cut(0, 0) = 3; cut(2, 0) = 2; cut(4, 0) = 1; cut(2, 1) = 0;",
                "cut(2, 1) = NOT_LINKED");
    }

    private static void cutOnlyThere() {
        Sentence.holds(4, "Cuts the link at a port.", "other ports keep all that they have",
                DECLARED, "addBridge() = 2; connect(1, 3, 2, 0) = 2; tick(5) = 4; loseNext(1, 3) = 1;",
                "leaveAllTimer(1, 3) = 45; leaveAllTimer(1, 1) = 35; cut(0, 0) = 1; loseNext(1, 3) = 0;",
                "leaveAllTimer(1, 3) = 45; leaveAllTimer(1, 1) = 35; registrar(1, 1, 2) = IN;",
                "registrar(2, 0, 2) = IN; applicant(1, 3, 3) = QUIET; applicant(1, 1, 3) = QUIET;",
                "registrar(0, 1, 3) = IN; hostApplicant(0, 3) = QUIET; time() = 15; cut(2, 0) = 0");
    }

    private static void cutErrors() {
        Sentence.changesNothing(4, "NO_SUCH_PORT", "each argument, on each side",
                Networks.BUSY, "cut(-1, 0) = NO_SUCH_PORT; cut(4, 0) = NO_SUCH_PORT;",
                "cut(0, -1) = NO_SUCH_PORT; cut(0, 4) = NO_SUCH_PORT; cut(1, -1) = NO_SUCH_PORT;",
                "cut(1, 4) = NO_SUCH_PORT; cut(-1, 4) = NO_SUCH_PORT");
        Sentence.changesNothing(4, "NOT_LINKED", "a free port, a port with a host",
                Networks.BUSY, "cut(0, 3) = NOT_LINKED; cut(3, 3) = NOT_LINKED; cut(0, 1) = NOT_LINKED;",
                "cut(3, 0) = NOT_LINKED; cut(2, 1) = NOT_LINKED");
        Sentence.changesNothing(4, "NOT_LINKED", "a port whose link was cut, at either end",
                Networks.BUSY + "cut(0, 0) = 1;", "cut(0, 0) = NOT_LINKED; cut(1, 0) = NOT_LINKED");
    }

    private static void addHost() {
        Sentence.holds(5, "Its applicants are OBSERVERs, and it is not silent.", "the first and the eighth host",
                Networks.FULL_NETWORK, "hostApplicant(0, 0) = OBSERVER; hostApplicant(0, 1) = OBSERVER;",
                "hostApplicant(0, 2) = OBSERVER; hostApplicant(0, 3) = OBSERVER;",
                "hostApplicant(7, 0) = OBSERVER; hostApplicant(7, 1) = OBSERVER;",
                "hostApplicant(7, 2) = OBSERVER; hostApplicant(7, 3) = OBSERVER;",
                "setSilent(0, false) = 0; setSilent(7, false) = 0; join(7, 3) = 1; tick(1) = 1");
        Sentence.holds(5, "Its applicants are OBSERVERs, and it is not silent.", "whatever the host before it is",
                Networks.ONE_HOST, "join(0, 0) = 1; join(0, 3) = 1; setSilent(0, true) = 1;",
                "addHost(0, 1) = 1; hostApplicant(1, 0) = OBSERVER; hostApplicant(1, 3) = OBSERVER;",
                "setSilent(1, false) = 0");
        for (int time : new int[] {0, 1, 200}) {
            Sentence.holds(5, "The leave-all timer of the port starts with the leave-all time.", "" + time,
                    "addBridge() = 0; setTimes(6, " + time + ") = 0; addHost(0, 3) = 0;",
                    "leaveAllTimer(0, 3) = " + time + "; leaveAllTimer(0, 2) = 0");
        }
        Sentence.holds(5, "The leave-all timer of the port starts with the leave-all time.", "and no other port's",
                Networks.ONE_HOST, "setTimes(6, 200) = 1; tick(7) = 0; addHost(0, 1) = 1;",
                "leaveAllTimer(0, 1) = 200; leaveAllTimer(0, 0) = 193; leaveAllTimer(0, 2) = 0");
        Sentence.holds(5, "The leave-all timer of the port starts with the leave-all time.", "after a link was cut",
                Networks.TWO_BRIDGES, "setTimes(6, 9) = 4; tick(4) = 0; cut(0, 0) = 0; addHost(1, 0) = 2;",
                "leaveAllTimer(1, 0) = 9; leaveAllTimer(0, 0) = 0");
        Sentence.holds(5, "Returns the number of the host", "0 to 7, in the order of the calls",
                Networks.FIVE_BRIDGES, "addHost(4, 3) = 0; addHost(0, 0) = 1; addHost(4, 0) = 2;",
                "addHost(1, 1) = 3; addHost(2, 2) = 4; addHost(3, 3) = 5; addHost(0, 3) = 6;",
                "addHost(0, 2) = 7; distance(0, 2) = 1; distance(1, 7) = 1; distance(0, 1) = 0");
    }

    private static void addHostErrors() {
        Sentence.changesNothing(5, "NO_SUCH_PORT", "each argument, on each side",
                Networks.BUSY, "addHost(-1, 3) = NO_SUCH_PORT; addHost(4, 3) = NO_SUCH_PORT;",
                "addHost(3, -1) = NO_SUCH_PORT; addHost(3, 4) = NO_SUCH_PORT;",
                "addHost(0, -1) = NO_SUCH_PORT; addHost(0, 4) = NO_SUCH_PORT");
        Sentence.holds(5, "NO_SUCH_PORT", "the last bridge and the last port that there are",
                Networks.BUSY, "addHost(3, 3) = 5");
        Sentence.changesNothing(5, "PORT_USED", "a port with a host, either end of a link",
                Networks.BUSY, "addHost(0, 1) = PORT_USED; addHost(3, 0) = PORT_USED;",
                "addHost(0, 0) = PORT_USED; addHost(1, 0) = PORT_USED; addHost(2, 0) = PORT_USED");
        Sentence.changesNothing(5, "FULL if there are 8 hosts", "the ninth, at every free port",
                Networks.FULL_AND_BUSY, "addHost(0, 3) = FULL; addHost(1, 3) = FULL;",
                "addHost(2, 3) = FULL; addHost(3, 3) = FULL");
        String quote = "Returns the number of the host; NO_SUCH_PORT; PORT_USED; FULL if there are 8 hosts.";
        Sentence.changesNothing(5, quote, "NO_SUCH_PORT before FULL",
                Networks.FULL_AND_BUSY, "addHost(5, 0) = NO_SUCH_PORT; addHost(-1, 0) = NO_SUCH_PORT;",
                "addHost(0, 4) = NO_SUCH_PORT; addHost(0, -1) = NO_SUCH_PORT");
        Sentence.changesNothing(5, quote, "PORT_USED before FULL",
                Networks.FULL_AND_BUSY, "addHost(0, 0) = PORT_USED; addHost(0, 1) = PORT_USED;",
                "addHost(4, 0) = PORT_USED; addHost(4, 3) = PORT_USED");
    }
}
