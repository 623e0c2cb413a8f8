/** Promises 6 to 12: setTimes, join, leave, setSilent, loseNext, tick, time. */
public final class EventsTest {
    private static final String ONE_HOST = Networks.ONE_HOST;
    private static final String TWO_HOSTS = Networks.TWO_HOSTS;
    private static final String TWO_BRIDGES = Networks.TWO_BRIDGES;

    public static void main(String[] args) {
        setTimes();
        join();
        leave();
        setSilent();
        loseNext();
        tick();
        timersAndLeaveAlls();
        propagation();
        receiving();
        Script.end();
    }

    private static void setTimes() {
        Script.run("6: bounds",
                "setTimes(1, 0) = 0; setTimes(50, 200) = 0; setTimes(0, 0) = BAD_VALUE;",
                "setTimes(51, 0) = BAD_VALUE; setTimes(-1, 0) = BAD_VALUE;",
                "setTimes(1, -1) = BAD_VALUE; setTimes(1, 201) = BAD_VALUE;",
                "setTimes(2147483647, 0) = BAD_VALUE; setTimes(1, -2147483648) = BAD_VALUE;",
                "setTimes(0, 201) = BAD_VALUE");
        Script.run("6: connected ports, those of links and of hosts",
                TWO_BRIDGES, "setTimes(1, 5) = 4; leaveAllTimer(0, 0) = 5;",
                "leaveAllTimer(0, 1) = 5; leaveAllTimer(1, 0) = 5; leaveAllTimer(1, 1) = 5;",
                "leaveAllTimer(0, 2) = 0; leaveAllTimer(1, 3) = 0; cut(0, 0) = 0;",
                "setTimes(1, 5) = 2");
        Script.run("6: timers of registrars keep their values, leave-all timers start anew",
                ONE_HOST, "setTimes(9, 100) = 1; join(0, 0) = 1; join(0, 1) = 1; tick(2) = 4;",
                "leave(0, 0) = 1; tick(1) = 1; registrarTimer(0, 0, 0) = 9;",
                "leaveAllTimer(0, 0) = 97; setTimes(2, 30) = 1; registrarTimer(0, 0, 0) = 9;",
                "leaveAllTimer(0, 0) = 30; leave(0, 1) = 1; tick(1) = 1;",
                "registrarTimer(0, 0, 0) = 8; registrarTimer(0, 0, 1) = 2;",
                "setTimes(2, 0) = 1; leaveAllTimer(0, 0) = 0; tick(100) = 0;",
                "leaveAllTimer(0, 0) = 0");
        Script.run("6: an error changes nothing",
                ONE_HOST, "setTimes(4, 40) = 1; tick(1) = 0; setTimes(3, 201) = BAD_VALUE;",
                "setTimes(0, 20) = BAD_VALUE; leaveAllTimer(0, 0) = 39; join(0, 0) = 1;",
                "tick(2) = 2; leave(0, 0) = 1; tick(1) = 1; registrarTimer(0, 0, 0) = 4;",
                "tick(36) = 1; leaveAllTimer(0, 0) = 40");
    }

    private static void join() {
        Script.run("7: an observer and a leaver change, others do not",
                ONE_HOST, "join(0, 3) = 1; hostApplicant(0, 3) = ANXIOUS; join(0, 3) = 0;",
                "hostApplicant(0, 2) = OBSERVER; tick(1) = 1; hostApplicant(0, 3) = ANXIOUS;",
                "join(0, 3) = 0; tick(1) = 1; hostApplicant(0, 3) = QUIET; join(0, 3) = 0;",
                "hostApplicant(0, 3) = QUIET; tick(1) = 0; leave(0, 3) = 1;",
                "hostApplicant(0, 3) = LEAVER; join(0, 3) = 1; hostApplicant(0, 3) = ANXIOUS;",
                "tick(1) = 1; hostApplicant(0, 3) = ANXIOUS; tick(5) = 1;",
                "hostApplicant(0, 3) = QUIET");
        Script.run("7: errors and their order",
                "join(0, 0) = NO_SUCH_HOST; join(0, 4) = NO_SUCH_HOST;", ONE_HOST,
                "join(1, 0) = NO_SUCH_HOST; join(-1, 0) = NO_SUCH_HOST; join(1, 4) = NO_SUCH_HOST;",
                "join(0, 4) = NO_SUCH_GROUP; join(0, -1) = NO_SUCH_GROUP;",
                "join(2147483647, 0) = NO_SUCH_HOST; join(0, -2147483648) = NO_SUCH_GROUP;",
                "isSettled() = 1; tick(5) = 0");
    }

    private static void leave() {
        Script.run("8: an anxious and a quiet applicant change, others do not",
                ONE_HOST, "leave(0, 1) = 0; hostApplicant(0, 1) = OBSERVER; join(0, 1) = 1;",
                "leave(0, 1) = 1; hostApplicant(0, 1) = LEAVER; leave(0, 1) = 0;",
                "hostApplicant(0, 1) = LEAVER; tick(1) = 1; hostApplicant(0, 1) = OBSERVER;",
                "registrar(0, 0, 1) = EMPTY; leave(0, 1) = 0; join(0, 1) = 1; tick(2) = 2;",
                "hostApplicant(0, 1) = QUIET; leave(0, 1) = 1; hostApplicant(0, 1) = LEAVER;",
                "hostApplicant(0, 0) = OBSERVER; tick(1) = 1; registrar(0, 0, 1) = LEAVING");
        Script.run("8: errors and their order",
                "leave(0, 0) = NO_SUCH_HOST; leave(0, 4) = NO_SUCH_HOST;", ONE_HOST,
                "join(0, 0) = 1; leave(1, 0) = NO_SUCH_HOST; leave(-1, 0) = NO_SUCH_HOST;",
                "leave(1, -1) = NO_SUCH_HOST; leave(0, 4) = NO_SUCH_GROUP;",
                "leave(0, -1) = NO_SUCH_GROUP; hostApplicant(0, 0) = ANXIOUS");
    }

    private static void setSilent() {
        Script.run("9: changes and errors",
                "setSilent(0, true) = NO_SUCH_HOST;", TWO_HOSTS,
                "setSilent(2, true) = NO_SUCH_HOST; setSilent(-1, true) = NO_SUCH_HOST;",
                "setSilent(0, false) = 0; setSilent(0, true) = 1; setSilent(0, true) = 0;",
                "setSilent(1, true) = 1; setSilent(0, false) = 1; setSilent(0, false) = 0;",
                "setSilent(1, true) = 0");
        Script.run("9: a silent host sends nothing, until it is no longer silent",
                TWO_HOSTS, "setSilent(1, true) = 1; join(1, 0) = 1; tick(3) = 0;",
                "hostApplicant(1, 0) = ANXIOUS; registrar(0, 1, 0) = EMPTY; leave(1, 0) = 1;",
                "tick(3) = 0; hostApplicant(1, 0) = LEAVER; join(1, 0) = 1;",
                "setSilent(1, false) = 1; tick(1) = 1; registrar(0, 1, 0) = IN;",
                "hostApplicant(1, 0) = ANXIOUS; tick(1) = 2; hostApplicant(1, 0) = QUIET");
        Script.run("9: a silent host receives a leave-all and has one join to send",
                ONE_HOST, "setTimes(5, 3) = 1; join(0, 0) = 1; tick(2) = 2;",
                "setSilent(0, true) = 1; tick(1) = 1; hostApplicant(0, 0) = ANXIOUS;",
                "registrar(0, 0, 0) = LEAVING; setSilent(0, false) = 1; tick(1) = 1;",
                "hostApplicant(0, 0) = QUIET; registrar(0, 0, 0) = IN; registrarTimer(0, 0, 0) = 0");
    }

    private static void loseNext() {
        Script.run("10: marks and errors",
                "loseNext(0, 0) = NO_SUCH_PORT;", TWO_BRIDGES,
                "loseNext(2, 0) = NO_SUCH_PORT; loseNext(-1, 0) = NO_SUCH_PORT;",
                "loseNext(0, 4) = NO_SUCH_PORT; loseNext(0, -1) = NO_SUCH_PORT;",
                "loseNext(0, 1) = NOT_LINKED; loseNext(0, 2) = NOT_LINKED;",
                "loseNext(0, 0) = 1; loseNext(0, 0) = 0; loseNext(1, 0) = 1;",
                "loseNext(1, 0) = 0; tick(1) = 0; loseNext(0, 0) = 1; loseNext(1, 0) = 1");
        Script.run("10: what the port sends is counted, but lost",
                TWO_BRIDGES, "join(1, 2) = 1; tick(1) = 1; loseNext(1, 0) = 1; tick(1) = 2;",
                "applicant(1, 0, 2) = ANXIOUS; registrar(0, 0, 2) = EMPTY; tick(1) = 1;",
                "applicant(1, 0, 2) = QUIET; registrar(0, 0, 2) = IN");
        Script.run("10: what is sent to the port is not lost",
                TWO_BRIDGES, "join(1, 2) = 1; tick(1) = 1; loseNext(0, 0) = 1; tick(1) = 2;",
                "registrar(0, 0, 2) = IN; loseNext(0, 0) = 1");
        Script.run("10: only the first of several ticks is lost",
                TWO_BRIDGES, "join(1, 2) = 1; tick(1) = 1; loseNext(1, 0) = 1; tick(2) = 3;",
                "registrar(0, 0, 2) = IN; loseNext(1, 0) = 1");
        Script.run("10: the mark is gone also if the port sent nothing",
                TWO_BRIDGES, "join(1, 2) = 1; loseNext(1, 0) = 1; tick(1) = 1; tick(1) = 2;",
                "registrar(0, 0, 2) = IN");
        Script.run("10: both joins lost, so the group stays unknown behind the link",
                TWO_BRIDGES, "join(1, 2) = 1; tick(1) = 1; loseNext(1, 0) = 1; tick(1) = 2;",
                "loseNext(1, 0) = 1; tick(1) = 1; tick(5) = 0; registrar(0, 0, 2) = EMPTY;",
                "isSettled() = 1; missedCount(0, 2) = 1");
        Script.run("10: a leave-all is lost too, but its sender obeys it",
                TWO_BRIDGES, "join(1, 2) = 1; tick(5) = 6; setTimes(4, 3) = 4; tick(2) = 0;",
                "loseNext(0, 0) = 1; loseNext(1, 0) = 1; tick(1) = 6;",
                "registrar(0, 0, 2) = LEAVING; registrarTimer(0, 0, 2) = 4;",
                "applicant(1, 0, 2) = QUIET; registrar(1, 1, 2) = LEAVING;",
                "hostApplicant(1, 2) = ANXIOUS");
        Script.run("10: a leave is lost too, so the group stays known behind the link",
                TWO_BRIDGES, "join(1, 2) = 1; tick(5) = 6; setTimes(1, 0) = 4; leave(1, 2) = 1;",
                "tick(1) = 1; registrarTimer(1, 1, 2) = 1; loseNext(1, 0) = 1; tick(1) = 1;",
                "registrar(1, 1, 2) = EMPTY; applicant(1, 0, 2) = OBSERVER; tick(20) = 0;",
                "registrar(0, 0, 2) = IN; applicant(0, 1, 2) = QUIET; isSettled() = 1");
    }

    private static void tick() {
        Script.run("11, 12: bounds and time",
                "tick(0) = BAD_VALUE; tick(101) = BAD_VALUE; tick(-1) = BAD_VALUE;",
                "tick(2147483647) = BAD_VALUE; tick(-2147483648) = BAD_VALUE; time() = 0;",
                "tick(1) = 0; time() = 1; tick(100) = 0; time() = 101; tick(7) = 0;",
                "time() = 108; time() = 108");
        Script.run("11: all messages are counted, of all ticks and groups",
                ONE_HOST, "join(0, 0) = 1; join(0, 1) = 1; join(0, 2) = 1; join(0, 3) = 1;",
                "tick(1) = 4; tick(1) = 4; tick(1) = 0; leave(0, 0) = 1; leave(0, 3) = 1;",
                "tick(4) = 2");
        Script.run("11: leave-alls are counted, of ports with links and with hosts",
                TWO_BRIDGES, "setTimes(6, 1) = 4; tick(1) = 4; tick(10) = 40");
        Script.run("11: two ticks are as one and one",
                TWO_BRIDGES, "join(0, 0) = 1; join(1, 1) = 1; tick(1) = 2; tick(1) = 4;",
                "tick(1) = 4; tick(1) = 2; tick(1) = 0");
    }

    private static void timersAndLeaveAlls() {
        Script.run("11: a leave-all is due when the timer ends, and the timer starts again",
                ONE_HOST, "setTimes(3, 4) = 1; leaveAllTimer(0, 0) = 4; tick(3) = 0;",
                "leaveAllTimer(0, 0) = 1; tick(1) = 1; leaveAllTimer(0, 0) = 4; tick(4) = 1;",
                "leaveAllTimer(0, 0) = 4; tick(8) = 2");
        Script.run("11: the sender of a leave-all obeys it before it sends its joins",
                TWO_HOSTS, "join(1, 0) = 1; tick(5) = 4; setTimes(7, 1) = 2; tick(1) = 3;",
                "registrar(0, 1, 0) = LEAVING; registrarTimer(0, 1, 0) = 7;",
                "applicant(0, 0, 0) = QUIET; hostApplicant(1, 0) = ANXIOUS; setTimes(7, 0) = 2;",
                "tick(1) = 1; registrar(0, 1, 0) = IN; registrarTimer(0, 1, 0) = 0;",
                "hostApplicant(1, 0) = QUIET");
        Script.run("11: a leave-all leaves anxious applicants and running timers alone",
                ONE_HOST, "setTimes(9, 0) = 1; join(0, 0) = 1; tick(2) = 2; leave(0, 0) = 1;",
                "tick(4) = 1; registrarTimer(0, 0, 0) = 6; setTimes(9, 1) = 1;",
                "setSilent(0, true) = 1; join(0, 1) = 1; tick(1) = 1; registrarTimer(0, 0, 0) = 5;",
                "hostApplicant(0, 1) = ANXIOUS; setTimes(9, 0) = 1; setSilent(0, false) = 1;",
                "tick(1) = 1; hostApplicant(0, 1) = ANXIOUS; tick(3) = 1;",
                "hostApplicant(0, 1) = QUIET; hostApplicant(0, 0) = OBSERVER");
        Script.run("11: a leave-all of one port leaves the registrars of the others alone",
                ONE_HOST, "setTimes(3, 5) = 1; join(0, 0) = 1; join(0, 3) = 1; tick(2) = 4;",
                "addHost(0, 1) = 1; join(1, 0) = 1; join(1, 3) = 1; tick(2) = 10; tick(1) = 3;",
                "registrar(0, 0, 0) = LEAVING; registrar(0, 0, 3) = LEAVING;",
                "registrar(0, 1, 0) = IN; registrar(0, 1, 3) = IN; hostApplicant(1, 0) = QUIET");
        Script.run("11: with leave time 1 a registrar is empty after one tick",
                ONE_HOST, "setTimes(1, 0) = 1; join(0, 0) = 1; tick(2) = 2; leave(0, 0) = 1;",
                "tick(1) = 1; registrar(0, 0, 0) = LEAVING; registrarTimer(0, 0, 0) = 1;",
                "tick(1) = 0; registrar(0, 0, 0) = EMPTY; registrarTimer(0, 0, 0) = 0");
        Script.run("11: a host answers in the tick after a leave-all, before the leave time 1 ends",
                ONE_HOST, "setTimes(1, 1) = 1; join(0, 0) = 1; tick(1) = 2;",
                "registrar(0, 0, 0) = IN; hostApplicant(0, 0) = ANXIOUS; tick(1) = 2;",
                "registrar(0, 0, 0) = IN; hostApplicant(0, 0) = ANXIOUS; tick(50) = 100;",
                "registrar(0, 0, 0) = IN; setSilent(0, true) = 1; tick(1) = 1;",
                "registrar(0, 0, 0) = LEAVING; registrarTimer(0, 0, 0) = 1; tick(1) = 1;",
                "registrar(0, 0, 0) = EMPTY; registrarTimer(0, 0, 0) = 0");
    }

    private static void propagation() {
        Script.run("11: a port does not declare what is registered at itself alone",
                TWO_HOSTS, "join(0, 0) = 1; tick(4) = 4; applicant(0, 0, 0) = OBSERVER;",
                "applicant(0, 1, 0) = QUIET; join(1, 0) = 1; tick(2) = 3;",
                "applicant(0, 0, 0) = ANXIOUS; tick(1) = 1; applicant(0, 0, 0) = QUIET");
        Script.run("11: a group is wanted as long as its registrar is leaving",
                TWO_HOSTS, "setTimes(3, 0) = 2; join(0, 0) = 1; tick(4) = 4; leave(0, 0) = 1;",
                "tick(3) = 1; registrarTimer(0, 0, 0) = 1; applicant(0, 1, 0) = QUIET;",
                "tick(1) = 1; registrar(0, 0, 0) = EMPTY; applicant(0, 1, 0) = OBSERVER");
        Script.run("11: a declaration that is gone before its second join",
                TWO_BRIDGES, "setTimes(1, 0) = 4; join(0, 0) = 1; tick(1) = 1; leave(0, 0) = 1;",
                "tick(1) = 2; applicant(0, 0, 0) = ANXIOUS; registrar(1, 0, 0) = IN;",
                "tick(1) = 2; applicant(0, 0, 0) = OBSERVER; registrar(1, 0, 0) = LEAVING;",
                "applicant(1, 1, 0) = ANXIOUS; tick(1) = 1; registrar(1, 0, 0) = EMPTY;",
                "applicant(1, 1, 0) = OBSERVER; isSettled() = 1");
        Script.run("11: each group goes its own way",
                TWO_BRIDGES, "join(0, 0) = 1; join(0, 3) = 1; join(1, 1) = 1; tick(10) = 18;",
                "registrar(1, 0, 0) = IN; registrar(1, 0, 1) = EMPTY; registrar(1, 0, 2) = EMPTY;",
                "registrar(1, 0, 3) = IN; registrar(0, 0, 1) = IN; registrar(0, 0, 0) = EMPTY;",
                "applicant(1, 1, 0) = QUIET; applicant(1, 1, 1) = OBSERVER;",
                "applicant(0, 1, 1) = QUIET; applicant(0, 1, 3) = OBSERVER");
    }

    private static void receiving() {
        Script.run("11: a join stops a timer that is running",
                ONE_HOST, "join(0, 0) = 1; tick(2) = 2; leave(0, 0) = 1; tick(3) = 1;",
                "registrarTimer(0, 0, 0) = 4; join(0, 0) = 1; tick(1) = 1;",
                "registrar(0, 0, 0) = IN; registrarTimer(0, 0, 0) = 0; tick(20) = 1;",
                "registrar(0, 0, 0) = IN");
        Script.run("11: a leave does not start a timer again, nor an empty registrar",
                ONE_HOST, "join(0, 0) = 1; tick(2) = 2; leave(0, 0) = 1; tick(3) = 1;",
                "registrarTimer(0, 0, 0) = 4; join(0, 0) = 1; leave(0, 0) = 1; tick(1) = 1;",
                "registrarTimer(0, 0, 0) = 3; join(0, 1) = 1; leave(0, 1) = 1; tick(1) = 1;",
                "registrar(0, 0, 1) = EMPTY; registrarTimer(0, 0, 1) = 0");
        Script.run("11: hosts ignore joins and leaves",
                TWO_HOSTS, "join(0, 0) = 1; join(1, 0) = 1; tick(5) = 8; leave(0, 0) = 1;",
                "tick(10) = 2; applicant(0, 1, 0) = OBSERVER; hostApplicant(1, 0) = QUIET;",
                "registrar(0, 1, 0) = IN; hostApplicant(0, 0) = OBSERVER");
        Script.run("11: a leave-all and the joins behind it arrive in their order",
                TWO_BRIDGES, "join(1, 2) = 1; tick(5) = 6; setTimes(4, 1) = 4; tick(1) = 6;",
                "registrar(0, 0, 2) = IN; registrarTimer(0, 0, 2) = 0;",
                "applicant(1, 0, 2) = ANXIOUS; registrar(1, 1, 2) = LEAVING;",
                "registrarTimer(1, 1, 2) = 4; hostApplicant(1, 2) = ANXIOUS;",
                "applicant(0, 1, 2) = QUIET");
    }
}
