/** Promises 1 to 5: a new object, addBridge, connect, cut, addHost. */
public final class NetworkTest {
    private static final String FIVE_BRIDGES = Networks.FIVE_BRIDGES;

    // Host 0 at bridge 0 and host 1 at bridge 1, which has declared group 2 through the link 0-1.
    private static final String DECLARED_THROUGH_A_LINK =
            "addBridge() = 0; addBridge() = 1; connect(0, 0, 1, 0) = 1; addHost(0, 1) = 0;"
            + "addHost(1, 1) = 1; setTimes(5, 50) = 4; join(1, 2) = 1; join(0, 3) = 1; tick(10) = 12;"
            + "registrar(0, 0, 2) = IN; applicant(1, 0, 2) = QUIET; applicant(0, 1, 2) = QUIET;"
            + "registrar(1, 0, 3) = IN; applicant(0, 0, 3) = QUIET;";

    public static void main(String[] args) {
        newObject();
        addBridge();
        connect();
        connectErrors();
        cut();
        cutErrors();
        addHost();
        addHostErrors();
        Script.end();
    }

    private static void newObject() {
        Script.run("1: nothing is there",
                "time() = 0; isSettled() = 1; registrar(0, 0, 0) = NO_SUCH_PORT;",
                "leaveAllTimer(0, 0) = NO_SUCH_PORT; hostApplicant(0, 0) = NO_SUCH_HOST;",
                "setTimes(6, 0) = 0; tick(1) = 0; time() = 1");
        Script.run("1: the leave time is 6",
                "addBridge() = 0; addHost(0, 0) = 0; join(0, 0) = 1; tick(2) = 2;",
                "leave(0, 0) = 1; tick(1) = 1; registrarTimer(0, 0, 0) = 6;",
                "tick(5) = 0; registrarTimer(0, 0, 0) = 1; registrar(0, 0, 0) = LEAVING;",
                "tick(1) = 0; registrar(0, 0, 0) = EMPTY");
        Script.run("1: no leave-all is ever due",
                "addBridge() = 0; addHost(0, 0) = 0; leaveAllTimer(0, 0) = 0; join(0, 0) = 1;",
                "tick(2) = 2; tick(100) = 0; tick(100) = 0; tick(100) = 0;",
                "leaveAllTimer(0, 0) = 0; registrar(0, 0, 0) = IN");
        GroupRegistration one = new GroupRegistration();
        GroupRegistration other = new GroupRegistration();
        Script.due("1: addBridge of one object", one.addBridge(), 0);
        Script.due("1: tick of one object", one.tick(3), 0);
        Script.due("1: setTimes of one object", one.setTimes(9, 9), 0);
        Script.due("1: time of the other object", other.time(), 0);
        Script.due("1: addBridge of the other object", other.addBridge(), 0);
        Script.due("1: addHost of the other object", other.addHost(0, 0), 0);
        Script.due("1: leaveAllTimer of the other object", other.leaveAllTimer(0, 0), 0);
    }

    private static void addBridge() {
        Script.run("2: five bridges",
                FIVE_BRIDGES, "addBridge() = FULL; addBridge() = FULL;",
                "registrar(4, 3, 3) = EMPTY; registrar(5, 0, 0) = NO_SUCH_PORT");
        Script.run("2: the ports are free",
                "addBridge() = 0; cut(0, 0) = NOT_LINKED; cut(0, 3) = NOT_LINKED;",
                "applicant(0, 0, 0) = OBSERVER; applicant(0, 3, 3) = OBSERVER;",
                "registrar(0, 0, 0) = EMPTY; registrar(0, 3, 3) = EMPTY;",
                "registrarTimer(0, 0, 0) = 0; leaveAllTimer(0, 0) = 0; setTimes(1, 9) = 0;",
                "leaveAllTimer(0, 0) = 0; addHost(0, 0) = 0; addHost(0, 1) = 1;",
                "addHost(0, 2) = 2; addHost(0, 3) = 3");
    }

    private static void connect() {
        Script.run("3: the number of links, the timers of both ports",
                FIVE_BRIDGES, "setTimes(6, 77) = 0; connect(0, 0, 1, 3) = 1;",
                "leaveAllTimer(0, 0) = 77; leaveAllTimer(1, 3) = 77; leaveAllTimer(0, 1) = 0;",
                "connect(4, 0, 1, 0) = 2; connect(2, 0, 1, 1) = 3; connect(3, 0, 1, 2) = 4;",
                "setTimes(6, 0) = 8; cut(1, 0) = 3; connect(4, 3, 0, 3) = 4;",
                "leaveAllTimer(4, 3) = 0; addHost(2, 1) = 0; addHost(4, 1) = 1;",
                "distance(0, 1) = 4");
        Script.run("3: a link that was cut begins anew",
                DECLARED_THROUGH_A_LINK, "tick(3) = 0; leaveAllTimer(0, 0) = 37;",
                "cut(0, 0) = 0; connect(1, 0, 0, 0) = 1;",
                "registrar(0, 0, 2) = EMPTY; registrar(1, 0, 3) = EMPTY;",
                "applicant(0, 0, 3) = OBSERVER; applicant(1, 0, 2) = OBSERVER;",
                "leaveAllTimer(0, 0) = 50; leaveAllTimer(1, 0) = 50;",
                "tick(1) = 4; registrar(0, 0, 2) = IN; registrar(1, 0, 3) = IN");
        Script.run("3: another tree after a cut",
                "addBridge() = 0; addBridge() = 1; addBridge() = 2; connect(0, 0, 1, 0) = 1;",
                "connect(1, 1, 2, 0) = 2; connect(2, 1, 0, 1) = CYCLE; cut(0, 0) = 1;",
                "connect(2, 1, 0, 1) = 2; connect(0, 0, 1, 0) = CYCLE");
    }

    private static void connectErrors() {
        Script.run("3: ports that do not exist",
                "connect(0, 0, 1, 0) = NO_SUCH_PORT; addBridge() = 0;",
                "connect(0, 0, 1, 0) = NO_SUCH_PORT; connect(1, 0, 0, 0) = NO_SUCH_PORT;",
                "addBridge() = 1; connect(0, 4, 1, 0) = NO_SUCH_PORT;",
                "connect(0, 0, 1, 4) = NO_SUCH_PORT; connect(0, -1, 1, 0) = NO_SUCH_PORT;",
                "connect(0, 0, 1, -1) = NO_SUCH_PORT; connect(-1, 0, 1, 0) = NO_SUCH_PORT;",
                "connect(0, 0, -1, 0) = NO_SUCH_PORT; connect(2, 0, 1, 0) = NO_SUCH_PORT;",
                "connect(-2147483648, 0, 1, 0) = NO_SUCH_PORT;",
                "connect(1073741824, 0, 1, 0) = NO_SUCH_PORT;",
                "connect(0, 0, 2147483647, 2147483647) = NO_SUCH_PORT;",
                "connect(0, 0, 1, 0) = 1");
        Script.run("3: ports that are used",
                "addBridge() = 0; addBridge() = 1; addBridge() = 2; addHost(0, 1) = 0;",
                "connect(0, 0, 1, 0) = 1; connect(0, 0, 2, 0) = PORT_USED;",
                "connect(2, 0, 1, 0) = PORT_USED; connect(0, 1, 2, 0) = PORT_USED;",
                "connect(2, 0, 0, 1) = PORT_USED; connect(2, 0, 1, 1) = 2");
        Script.run("3: the order of the errors",
                "addBridge() = 0; addBridge() = 1; connect(0, 0, 1, 0) = 1;",
                "connect(0, 0, 1, 4) = NO_SUCH_PORT; connect(0, 0, 2, 0) = NO_SUCH_PORT;",
                "connect(0, 4, 1, 0) = NO_SUCH_PORT; connect(0, 0, 0, 4) = NO_SUCH_PORT;",
                "connect(0, 0, 1, 0) = PORT_USED; connect(0, 0, 0, 1) = PORT_USED;",
                "connect(0, 1, 0, 0) = PORT_USED; connect(0, 0, 0, 0) = PORT_USED;",
                "connect(0, 1, 1, 1) = CYCLE; connect(0, 1, 0, 1) = CYCLE;",
                "connect(0, 1, 0, 2) = CYCLE");
        Script.run("3: cycles through many bridges, and an error changes nothing",
                FIVE_BRIDGES, "connect(0, 0, 1, 0) = 1; connect(1, 1, 2, 0) = 2;",
                "connect(2, 1, 3, 0) = 3; connect(3, 1, 4, 0) = 4; connect(4, 1, 0, 1) = CYCLE;",
                "connect(0, 1, 4, 1) = CYCLE; connect(1, 2, 3, 2) = CYCLE;",
                "setTimes(6, 9) = 8; leaveAllTimer(4, 1) = 0; addHost(4, 1) = 0;",
                "addHost(0, 1) = 1");
    }

    private static void cut() {
        Script.run("4: both ports are clear and free",
                DECLARED_THROUGH_A_LINK, "loseNext(0, 0) = 1; loseNext(1, 0) = 1; cut(1, 0) = 0;",
                "registrar(0, 0, 2) = EMPTY; registrar(1, 0, 3) = EMPTY;",
                "applicant(0, 0, 3) = OBSERVER; applicant(1, 0, 2) = OBSERVER;",
                "leaveAllTimer(0, 0) = 0; leaveAllTimer(1, 0) = 0; leaveAllTimer(1, 1) = 40;",
                "setTimes(5, 50) = 2; cut(0, 0) = NOT_LINKED; cut(1, 0) = NOT_LINKED;",
                "connect(0, 0, 1, 0) = 1; loseNext(0, 0) = 1; loseNext(1, 0) = 1;",
                "cut(0, 0) = 0; addHost(0, 0) = 2; addHost(1, 0) = 3");
        Script.run("4: the registrars of other ports stay, their applicants go at the next tick",
                DECLARED_THROUGH_A_LINK, "cut(0, 0) = 0; registrar(1, 1, 2) = IN;",
                "applicant(0, 1, 2) = QUIET; hostApplicant(1, 2) = QUIET; isSettled() = 0;",
                "tick(1) = 2; applicant(0, 1, 2) = OBSERVER; registrar(1, 1, 2) = IN;",
                "isSettled() = 1");
        Script.run("4: a timer that is running becomes 0",
                DECLARED_THROUGH_A_LINK, "leave(1, 2) = 1; tick(1) = 1; tick(5) = 1;",
                "registrar(0, 0, 2) = LEAVING; registrarTimer(0, 0, 2) = 5; cut(0, 0) = 0;",
                "registrar(0, 0, 2) = EMPTY; registrarTimer(0, 0, 2) = 0;",
                "connect(0, 0, 1, 0) = 1; registrarTimer(0, 0, 2) = 0; tick(6) = 6;",
                "registrar(0, 0, 2) = EMPTY");
        Script.run("4: the joins that a port still had to send are forgotten",
                "addBridge() = 0; addBridge() = 1; connect(0, 0, 1, 0) = 1; addHost(0, 1) = 0;",
                "join(0, 0) = 1; tick(2) = 3; applicant(0, 0, 0) = ANXIOUS; cut(0, 0) = 0;",
                "connect(0, 0, 1, 0) = 1; tick(1) = 1; applicant(0, 0, 0) = ANXIOUS;",
                "tick(1) = 1; applicant(0, 0, 0) = QUIET; tick(1) = 0");
        Script.run("4: the links that are left",
                FIVE_BRIDGES, "connect(0, 0, 1, 0) = 1; connect(1, 1, 2, 0) = 2;",
                "connect(1, 2, 3, 0) = 3; connect(1, 3, 4, 0) = 4; cut(2, 0) = 3;",
                "cut(1, 3) = 2; cut(0, 0) = 1; cut(1, 2) = 0; cut(1, 2) = NOT_LINKED");
    }

    private static void cutErrors() {
        Script.run("4: errors",
                "cut(0, 0) = NO_SUCH_PORT; addBridge() = 0; addBridge() = 1; addHost(0, 1) = 0;",
                "connect(0, 0, 1, 0) = 1; cut(0, 4) = NO_SUCH_PORT; cut(0, -1) = NO_SUCH_PORT;",
                "cut(2, 0) = NO_SUCH_PORT; cut(-1, 0) = NO_SUCH_PORT; cut(0, 1) = NOT_LINKED;",
                "cut(0, 2) = NOT_LINKED; addHost(0, 1) = PORT_USED; cut(0, 0) = 0");
    }

    private static void addHost() {
        Script.run("5: a host at a free port",
                "addBridge() = 0; addBridge() = 1; setTimes(3, 12) = 0; addHost(1, 3) = 0;",
                "leaveAllTimer(1, 3) = 12; leaveAllTimer(1, 2) = 0; setSilent(0, false) = 0;",
                "hostApplicant(0, 0) = OBSERVER; hostApplicant(0, 3) = OBSERVER;",
                "registrar(1, 3, 0) = EMPTY; applicant(1, 3, 0) = OBSERVER;",
                "tick(5) = 0; leaveAllTimer(1, 3) = 7; addHost(0, 0) = 1;",
                "leaveAllTimer(0, 0) = 12; leaveAllTimer(1, 3) = 7; setTimes(3, 0) = 2;",
                "addHost(0, 1) = 2; leaveAllTimer(0, 1) = 0");
        Script.run("5: a new host gets a declaration that stands",
                "addBridge() = 0; addHost(0, 0) = 0; join(0, 1) = 1; tick(3) = 2;",
                "addHost(0, 1) = 1; applicant(0, 1, 1) = OBSERVER; isSettled() = 0;",
                "tick(1) = 1; applicant(0, 1, 1) = ANXIOUS; receivers(1, 1) = 1");
    }

    private static void addHostErrors() {
        Script.run("5: errors and their order",
                "addHost(0, 0) = NO_SUCH_PORT; addBridge() = 0; addBridge() = 1; addBridge() = 2;",
                "addHost(3, 0) = NO_SUCH_PORT; addHost(-1, 0) = NO_SUCH_PORT;",
                "addHost(0, 4) = NO_SUCH_PORT; addHost(0, -1) = NO_SUCH_PORT;",
                "addHost(2147483647, -2147483648) = NO_SUCH_PORT;",
                "connect(0, 0, 1, 0) = 1; addHost(0, 0) = PORT_USED; addHost(1, 0) = PORT_USED;",
                "addHost(0, 1) = 0; addHost(0, 1) = PORT_USED; addHost(0, 2) = 1;",
                "addHost(0, 3) = 2; addHost(1, 1) = 3; addHost(1, 2) = 4; addHost(1, 3) = 5;",
                "addHost(2, 0) = 6; addHost(2, 1) = 7; addHost(2, 2) = FULL;",
                "addHost(2, 1) = PORT_USED; addHost(2, 4) = NO_SUCH_PORT;",
                "hostApplicant(8, 0) = NO_SUCH_HOST; setTimes(6, 9) = 10;",
                "leaveAllTimer(2, 2) = 0; addBridge() = 3; connect(2, 2, 3, 0) = 2");
    }
}
