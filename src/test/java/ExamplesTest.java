/** The four examples of the document, with the answers that are printed there. */
public final class ExamplesTest {
    public static void main(String[] args) {
        Script.run("example 1, a declaration goes through two bridges",
                "addBridge() = 0; addBridge() = 1; connect(0, 0, 1, 0) = 1; addHost(0, 1) = 0;",
                "addHost(1, 1) = 1; join(1, 2) = 1; tick(1) = 1; registrar(1, 1, 2) = 1;",
                "applicant(1, 0, 2) = 0; tick(1) = 2; registrar(0, 0, 2) = 1;",
                "receivers(0, 2) = 2; tick(2) = 3; isSettled() = 1; hostApplicant(1, 2) = 2;",
                "distance(0, 1) = 2");
        Script.run("example 2, a host leaves",
                "addBridge() = 0; addHost(0, 0) = 0; addHost(0, 1) = 1; setTimes(3, 0) = 2;",
                "join(1, 0) = 1; tick(3) = 4; leave(1, 0) = 1; tick(1) = 1;",
                "registrar(0, 1, 0) = 2; registrarTimer(0, 1, 0) = 3; receivers(0, 0) = 2;",
                "needlessCount(0, 0) = 1; tick(3) = 1; registrar(0, 1, 0) = 0;",
                "receivers(0, 0) = 0");
        Script.run("example 3, a silent host is forgotten",
                "addBridge() = 0; addHost(0, 0) = 0; addHost(0, 1) = 1; setTimes(2, 4) = 2;",
                "join(1, 3) = 1; tick(3) = 4; setSilent(1, true) = 1; leaveAllTimer(0, 1) = 1;",
                "tick(1) = 3; registrar(0, 1, 3) = 2; hostApplicant(1, 3) = 1; tick(2) = 1;",
                "registrar(0, 1, 3) = 0; missedCount(0, 3) = 1");
        Script.run("example 4, errors",
                "addBridge() = 0; connect(0, 0, 0, 1) = -8; addBridge() = 1;",
                "connect(0, 0, 1, 4) = -1; connect(0, 0, 1, 3) = 1; connect(0, 1, 1, 0) = -8;",
                "addHost(0, 0) = -6; cut(0, 2) = -7; cut(0, 0) = 0; loseNext(0, 0) = -7;",
                "join(0, 9) = -2; tick(0) = -4");
        Script.end();
    }
}
