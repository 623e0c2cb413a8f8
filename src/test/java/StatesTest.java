/** Promises 13 to 18: registrar, registrarTimer, applicant, hostApplicant, leaveAllTimer, isSettled. */
public final class StatesTest {
    private static final String ONE_HOST = Networks.ONE_HOST;
    private static final String TWO_BRIDGES = Networks.TWO_BRIDGES;

    public static void main(String[] args) {
        errorsOfPorts("13: ", "registrar");
        errorsOfPorts("14: ", "registrarTimer");
        errorsOfPorts("15: ", "applicant");
        registrars();
        applicants();
        hostApplicant();
        leaveAllTimer();
        isSettled();
        Script.end();
    }

    private static void errorsOfPorts(String promise, String method) {
        Script.run(promise + method + ", errors and their order",
                method + "(0, 0, 0) = NO_SUCH_PORT;" + method + "(0, 0, 4) = NO_SUCH_PORT;",
                "addBridge() = 0;",
                method + "(0, 0, 0) = 0;" + method + "(0, 3, 3) = 0;",
                method + "(1, 0, 0) = NO_SUCH_PORT;" + method + "(-1, 0, 0) = NO_SUCH_PORT;",
                method + "(0, 4, 0) = NO_SUCH_PORT;" + method + "(0, -1, 0) = NO_SUCH_PORT;",
                method + "(0, 4, 4) = NO_SUCH_PORT;" + method + "(1, 0, -1) = NO_SUCH_PORT;",
                method + "(0, 0, 4) = NO_SUCH_GROUP;" + method + "(0, 3, -1) = NO_SUCH_GROUP;",
                method + "(0, 0, 2147483647) = NO_SUCH_GROUP;",
                method + "(2147483647, 0, 0) = NO_SUCH_PORT;",
                method + "(-2147483648, 0, 0) = NO_SUCH_PORT;",
                method + "(1073741824, 0, 0) = NO_SUCH_PORT;",
                method + "(0, -2147483648, 0) = NO_SUCH_PORT");
    }

    private static void registrars() {
        Script.run("13, 14: from empty to in, leaving and empty",
                ONE_HOST, "setTimes(2, 0) = 1; registrar(0, 0, 1) = EMPTY; join(0, 1) = 1;",
                "registrar(0, 0, 1) = EMPTY; tick(1) = 1; registrar(0, 0, 1) = IN;",
                "registrarTimer(0, 0, 1) = 0; registrar(0, 0, 0) = EMPTY;",
                "registrar(0, 1, 1) = EMPTY; tick(1) = 1; leave(0, 1) = 1;",
                "registrar(0, 0, 1) = IN; tick(1) = 1; registrar(0, 0, 1) = LEAVING;",
                "registrarTimer(0, 0, 1) = 2; registrarTimer(0, 0, 0) = 0; tick(1) = 0;",
                "registrar(0, 0, 1) = LEAVING; registrarTimer(0, 0, 1) = 1; tick(1) = 0;",
                "registrar(0, 0, 1) = EMPTY; registrarTimer(0, 0, 1) = 0");
        Script.run("14: the longest leave time",
                ONE_HOST, "setTimes(50, 0) = 1; join(0, 3) = 1; tick(2) = 2; leave(0, 3) = 1;",
                "tick(1) = 1; registrarTimer(0, 0, 3) = 50; tick(49) = 0;",
                "registrarTimer(0, 0, 3) = 1; tick(1) = 0; registrar(0, 0, 3) = EMPTY");
    }

    private static void applicants() {
        Script.run("15: from observer to anxious, quiet and observer",
                TWO_BRIDGES, "setTimes(1, 0) = 4; join(1, 3) = 1; tick(1) = 1;",
                "applicant(1, 0, 3) = OBSERVER; applicant(1, 1, 3) = OBSERVER; tick(1) = 2;",
                "applicant(1, 0, 3) = ANXIOUS; applicant(0, 1, 3) = OBSERVER; tick(1) = 2;",
                "applicant(1, 0, 3) = QUIET; applicant(0, 1, 3) = ANXIOUS; tick(1) = 1;",
                "applicant(0, 1, 3) = QUIET; applicant(0, 0, 3) = OBSERVER; leave(1, 3) = 1;",
                "tick(1) = 1; applicant(1, 0, 3) = QUIET; tick(1) = 1;",
                "applicant(1, 0, 3) = OBSERVER; applicant(0, 1, 3) = QUIET; tick(1) = 1;",
                "applicant(0, 1, 3) = OBSERVER; isSettled() = 1");
    }

    private static void hostApplicant() {
        Script.run("16: states, errors and their order",
                "hostApplicant(0, 0) = NO_SUCH_HOST; hostApplicant(0, 4) = NO_SUCH_HOST;",
                ONE_HOST, "hostApplicant(1, 0) = NO_SUCH_HOST; hostApplicant(-1, 0) = NO_SUCH_HOST;",
                "hostApplicant(1, 4) = NO_SUCH_HOST; hostApplicant(0, 4) = NO_SUCH_GROUP;",
                "hostApplicant(0, -1) = NO_SUCH_GROUP; hostApplicant(2147483647, 0) = NO_SUCH_HOST;",
                "hostApplicant(0, -2147483648) = NO_SUCH_GROUP; hostApplicant(0, 0) = OBSERVER;",
                "join(0, 0) = 1; hostApplicant(0, 0) = ANXIOUS; tick(2) = 2;",
                "hostApplicant(0, 0) = QUIET; leave(0, 0) = 1; hostApplicant(0, 0) = LEAVER;",
                "tick(1) = 1; hostApplicant(0, 0) = OBSERVER");
    }

    private static void leaveAllTimer() {
        Script.run("17: values and errors",
                "leaveAllTimer(0, 0) = NO_SUCH_PORT;", ONE_HOST,
                "leaveAllTimer(1, 0) = NO_SUCH_PORT; leaveAllTimer(-1, 0) = NO_SUCH_PORT;",
                "leaveAllTimer(0, 4) = NO_SUCH_PORT; leaveAllTimer(0, -1) = NO_SUCH_PORT;",
                "leaveAllTimer(0, 0) = 0; setTimes(1, 200) = 1; leaveAllTimer(0, 0) = 200;",
                "leaveAllTimer(0, 1) = 0; tick(100) = 0; leaveAllTimer(0, 0) = 100;",
                "leaveAllTimer(0, 1) = 0; tick(99) = 0; leaveAllTimer(0, 0) = 1;",
                "addHost(0, 1) = 1; leaveAllTimer(0, 1) = 200; tick(1) = 1;",
                "leaveAllTimer(0, 0) = 200; leaveAllTimer(0, 1) = 199; setTimes(1, 1) = 2;",
                "tick(1) = 2; leaveAllTimer(0, 0) = 1");
    }

    private static void isSettled() {
        Script.run("18: applicants of hosts, except silent ones",
                ONE_HOST, "isSettled() = 1; join(0, 0) = 1; isSettled() = 0;",
                "setSilent(0, true) = 1; isSettled() = 1; leave(0, 0) = 1; isSettled() = 1;",
                "setSilent(0, false) = 1; isSettled() = 0; tick(1) = 1; isSettled() = 1");
        Script.run("18: an anxious applicant of a port, though all that is wanted is declared",
                TWO_BRIDGES, "join(1, 2) = 1; tick(1) = 1; isSettled() = 0; tick(1) = 2;",
                "isSettled() = 0; tick(1) = 2; isSettled() = 0; tick(1) = 1; isSettled() = 1");
        Script.run("18: a registrar that is leaving",
                ONE_HOST, "setTimes(2, 0) = 1; join(0, 0) = 1; tick(2) = 2; isSettled() = 1;",
                "leave(0, 0) = 1; tick(1) = 1; isSettled() = 0; tick(1) = 0; isSettled() = 0;",
                "tick(1) = 0; isSettled() = 1");
        Script.run("18: a port that does not declare what is wanted",
                ONE_HOST, "join(0, 0) = 1; tick(2) = 2; isSettled() = 1; addHost(0, 1) = 1;",
                "isSettled() = 0; tick(1) = 1; isSettled() = 0; tick(1) = 1; isSettled() = 1");
        Script.run("18: a port that declares what is no longer wanted",
                TWO_BRIDGES, "join(1, 2) = 1; tick(5) = 6; isSettled() = 1; cut(0, 0) = 0;",
                "isSettled() = 0; tick(1) = 1; isSettled() = 1");
        Script.run("18: an anxious applicant of a port that is no longer wanted",
                ONE_HOST, "addBridge() = 1; connect(0, 1, 1, 0) = 1; addHost(1, 1) = 1;",
                "join(1, 0) = 1; tick(3) = 5; applicant(0, 0, 0) = ANXIOUS; cut(0, 1) = 0;",
                "applicant(0, 0, 0) = ANXIOUS; isSettled() = 0; tick(1) = 1; isSettled() = 1");
        Script.run("18: a port declares what is registered at another port, not at itself",
                ONE_HOST, "addHost(0, 1) = 1; join(0, 0) = 1; join(1, 0) = 1; tick(1) = 2;",
                "isSettled() = 0; tick(2) = 6; isSettled() = 1");
    }
}
