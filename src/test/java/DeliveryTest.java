/** Promises 19 to 22: receivers, missedCount, needlessCount, distance. */
public final class DeliveryTest {
    // Bridge 1 in the middle of 0, 2 and 3; bridge 4 behind 3. Hosts: 0 and 1 at bridge 0, 2 at
    // bridge 1, 3 at bridge 2, 4 at bridge 3, 5 and 6 at bridge 4.
    private static final String TREE =
            "addBridge() = 0; addBridge() = 1; addBridge() = 2; addBridge() = 3; addBridge() = 4;"
            + "connect(1, 0, 0, 3) = 1; connect(1, 1, 2, 3) = 2; connect(3, 3, 1, 2) = 3;"
            + "connect(4, 0, 3, 0) = 4; addHost(0, 0) = 0; addHost(0, 1) = 1; addHost(1, 3) = 2;"
            + "addHost(2, 0) = 3; addHost(3, 1) = 4; addHost(4, 1) = 5; addHost(4, 2) = 6;";
    private static final String FIVE_IN_A_ROW =
            "addBridge() = 0; addBridge() = 1; addBridge() = 2; addBridge() = 3; addBridge() = 4;"
            + "connect(4, 0, 2, 0) = 1; connect(2, 1, 0, 0) = 2; connect(0, 1, 3, 0) = 3;"
            + "connect(3, 1, 1, 0) = 4; addHost(4, 3) = 0; addHost(1, 3) = 1;";
    private static final String ONE_BRIDGE =
            "addBridge() = 0; addHost(0, 0) = 0; addHost(0, 1) = 1; addHost(0, 2) = 2;";

    public static void main(String[] args) {
        errors("19: ", "receivers");
        errors("20: ", "missedCount");
        errors("21: ", "needlessCount");
        receivers();
        missedCount();
        needlessCount();
        distance();
        distanceErrors();
        Script.end();
    }

    private static void errors(String promise, String method) {
        Script.run(promise + method + ", errors and their order",
                method + "(0, 0) = NO_SUCH_HOST;" + method + "(0, 4) = NO_SUCH_HOST;",
                "addBridge() = 0; addHost(0, 0) = 0;" + method + "(0, 0) = 0;",
                method + "(1, 0) = NO_SUCH_HOST;" + method + "(-1, 0) = NO_SUCH_HOST;",
                method + "(1, 4) = NO_SUCH_HOST;" + method + "(-1, -1) = NO_SUCH_HOST;",
                method + "(0, 4) = NO_SUCH_GROUP;" + method + "(0, -1) = NO_SUCH_GROUP;",
                method + "(2147483647, 0) = NO_SUCH_HOST;" + method + "(0, 2147483647) = NO_SUCH_GROUP;",
                method + "(-2147483648, 0) = NO_SUCH_HOST;" + method + "(0, -2147483648) = NO_SUCH_GROUP");
    }

    private static void receivers() {
        Script.run("19: a frame goes along registered ports, never back to its sender",
                TREE, "join(0, 1) = 1; join(3, 1) = 1; join(6, 1) = 1; receivers(5, 1) = 0;",
                "tick(20) = 36; receivers(0, 1) = 72; receivers(1, 1) = 73;",
                "receivers(2, 1) = 73; receivers(3, 1) = 65; receivers(4, 1) = 73;",
                "receivers(5, 1) = 73; receivers(6, 1) = 9; receivers(6, 0) = 0;",
                "receivers(6, 2) = 0; isSettled() = 1; time() = 20");
        Script.run("19: a frame goes only as far as the declaration has come",
                TREE, "join(0, 0) = 1; tick(1) = 1; receivers(1, 0) = 1; receivers(2, 0) = 0;",
                "tick(1) = 3; receivers(2, 0) = 1; receivers(3, 0) = 0; receivers(4, 0) = 0;",
                "tick(1) = 5; receivers(3, 0) = 1; receivers(4, 0) = 1; receivers(5, 0) = 0;",
                "tick(1) = 6; receivers(5, 0) = 1; receivers(6, 0) = 1");
        Script.run("19: no frame goes over a link that was cut",
                TREE, "join(6, 3) = 1; tick(20) = 22; receivers(0, 3) = 64; cut(3, 3) = 3;",
                "receivers(0, 3) = 0; receivers(4, 3) = 64; receivers(5, 3) = 64");
        Script.run("19: a registrar that is leaving still delivers; the own port does not matter",
                ONE_BRIDGE, "join(0, 2) = 1; join(1, 2) = 1; tick(5) = 10; receivers(0, 2) = 2;",
                "receivers(1, 2) = 1; receivers(2, 2) = 3; leave(1, 2) = 1; tick(1) = 1;",
                "registrar(0, 1, 2) = LEAVING; receivers(0, 2) = 2; receivers(1, 2) = 1;",
                "tick(6) = 1; receivers(2, 2) = 1; receivers(0, 2) = 0");
        Script.run("19: all eight hosts have a bit",
                TREE, "addHost(4, 3) = 7; join(0, 0) = 1; join(1, 0) = 1; join(2, 0) = 1;",
                "join(3, 0) = 1; join(4, 0) = 1; join(5, 0) = 1; join(6, 0) = 1; join(7, 0) = 1;",
                "tick(20) = 48; receivers(0, 0) = 254; receivers(7, 0) = 127; receivers(3, 0) = 247;",
                "missedCount(0, 0) = 0; needlessCount(0, 0) = 0; missedCount(7, 1) = 0");
        Script.run("19: a frame passes five bridges",
                FIVE_IN_A_ROW, "join(0, 3) = 1; tick(10) = 12; receivers(1, 3) = 1;",
                "receivers(0, 3) = 0; join(1, 3) = 1; tick(10) = 12; receivers(0, 3) = 2");
    }

    private static void missedCount() {
        Script.run("20: hosts that declare the group and do not get the frame",
                TREE, "missedCount(0, 0) = 0; join(0, 0) = 1; missedCount(0, 0) = 0;",
                "missedCount(1, 0) = 1; missedCount(6, 0) = 1; missedCount(6, 1) = 0;",
                "join(5, 0) = 1; join(6, 0) = 1; missedCount(1, 0) = 3; missedCount(0, 0) = 2;",
                "missedCount(5, 0) = 2; leave(5, 0) = 1; missedCount(1, 0) = 2; tick(1) = 3;",
                "missedCount(1, 0) = 1; missedCount(5, 0) = 1; tick(20) = 30;",
                "missedCount(1, 0) = 0; missedCount(5, 0) = 0");
        Script.run("20: hosts that are not connected with the sender do not count",
                TREE, "join(0, 0) = 1; join(6, 0) = 1; missedCount(1, 0) = 2; cut(1, 2) = 3;",
                "missedCount(1, 0) = 1; missedCount(4, 0) = 1; missedCount(2, 0) = 1;",
                "connect(0, 2, 4, 3) = 4; missedCount(1, 0) = 2; missedCount(4, 0) = 2");
        Script.run("20: a quiet host that was forgotten counts, a silent one too",
                ONE_BRIDGE, "setTimes(1, 3) = 3; join(1, 0) = 1; tick(2) = 4;",
                "missedCount(0, 0) = 0; hostApplicant(1, 0) = QUIET; setSilent(1, true) = 1;",
                "tick(1) = 5; missedCount(0, 0) = 0; hostApplicant(1, 0) = ANXIOUS; tick(1) = 2;",
                "registrar(0, 1, 0) = EMPTY; missedCount(0, 0) = 1; missedCount(1, 0) = 0");
        Script.run("20: a quiet host behind joins that were lost",
                "addBridge() = 0; addBridge() = 1; connect(0, 0, 1, 0) = 1; addHost(0, 1) = 0;",
                "addHost(1, 1) = 1; join(1, 2) = 1; tick(1) = 1; loseNext(1, 0) = 1;",
                "tick(1) = 2; loseNext(1, 0) = 1; tick(1) = 1; hostApplicant(1, 2) = QUIET;",
                "receivers(0, 2) = 0; missedCount(0, 2) = 1");
    }

    private static void needlessCount() {
        Script.run("21: receivers that do not declare the group",
                ONE_BRIDGE, "join(1, 0) = 1; join(2, 0) = 1; tick(5) = 10;",
                "needlessCount(0, 0) = 0; leave(1, 0) = 1; needlessCount(0, 0) = 1;",
                "needlessCount(2, 0) = 1; needlessCount(1, 0) = 0; leave(2, 0) = 1;",
                "needlessCount(0, 0) = 2; hostApplicant(1, 0) = LEAVER; tick(1) = 2;",
                "hostApplicant(1, 0) = OBSERVER; needlessCount(0, 0) = 2; join(1, 0) = 1;",
                "needlessCount(0, 0) = 1; tick(6) = 3; needlessCount(0, 0) = 0;",
                "receivers(0, 0) = 2");
        Script.run("21: the first host counts too",
                ONE_BRIDGE, "join(0, 0) = 1; tick(2) = 4; leave(0, 0) = 1;",
                "needlessCount(1, 0) = 1; needlessCount(0, 0) = 0");
        Script.run("21: over links, and for one group alone",
                TREE, "join(6, 3) = 1; join(5, 3) = 1; join(6, 2) = 1; tick(20) = 48;",
                "leave(6, 3) = 1; needlessCount(0, 3) = 1; needlessCount(5, 3) = 1;",
                "needlessCount(6, 3) = 0; needlessCount(0, 2) = 0; needlessCount(0, 1) = 0;",
                "cut(0, 3) = 3; needlessCount(0, 3) = 0; needlessCount(2, 3) = 1");
    }

    private static void distance() {
        Script.run("22: the bridges on the way",
                TREE, "distance(0, 0) = 1; distance(6, 6) = 1; distance(0, 1) = 1;",
                "distance(0, 2) = 2; distance(2, 0) = 2; distance(0, 3) = 3; distance(3, 0) = 3;",
                "distance(0, 4) = 3; distance(0, 5) = 4; distance(6, 1) = 4; distance(5, 6) = 1;",
                "distance(3, 4) = 3; distance(3, 6) = 4; distance(4, 5) = 2; distance(2, 4) = 2");
        Script.run("22: all five bridges in a row",
                FIVE_IN_A_ROW, "distance(0, 1) = 5; distance(1, 0) = 5");
        Script.run("22: hosts that are not connected with each other",
                TREE, "cut(1, 2) = 3; distance(0, 4) = 0; distance(4, 0) = 0; distance(0, 3) = 3;",
                "distance(4, 6) = 2; connect(2, 1, 4, 3) = 4; distance(0, 4) = 5;",
                "distance(0, 0) = 1");
        Script.run("22: a way needs no registered group and takes no notice of silence",
                TREE, "setSilent(0, true) = 1; loseNext(1, 0) = 1; distance(0, 2) = 2");
    }

    private static void distanceErrors() {
        Script.run("22: errors",
                "distance(0, 0) = NO_SUCH_HOST; addBridge() = 0; addHost(0, 0) = 0;",
                "distance(0, 1) = NO_SUCH_HOST; distance(1, 0) = NO_SUCH_HOST;",
                "distance(-1, 0) = NO_SUCH_HOST; distance(0, -1) = NO_SUCH_HOST;",
                "distance(1, 1) = NO_SUCH_HOST; distance(-1, -1) = NO_SUCH_HOST;",
                "distance(0, 8) = NO_SUCH_HOST; distance(2147483647, 0) = NO_SUCH_HOST;",
                "distance(0, -2147483648) = NO_SUCH_HOST; distance(0, 0) = 1");
    }
}
