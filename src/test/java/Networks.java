/** Networks that many tests begin with, written as the scripts that build them. */
final class Networks {
    static final String ONE_HOST = "addBridge() = 0; addHost(0, 0) = 0;";
    static final String TWO_HOSTS = ONE_HOST + "addHost(0, 1) = 1;";

    /** Host 0 at bridge 0 and host 1 at bridge 1, with the link between the ports 0. */
    static final String TWO_BRIDGES =
            "addBridge() = 0; addBridge() = 1; connect(0, 0, 1, 0) = 1; addHost(0, 1) = 0;"
            + "addHost(1, 1) = 1;";

    static final String FIVE_BRIDGES =
            "addBridge() = 0; addBridge() = 1; addBridge() = 2; addBridge() = 3; addBridge() = 4;";

    static final String FIVE_IN_A_ROW = FIVE_BRIDGES
            + "connect(0, 0, 1, 0) = 1; connect(1, 1, 2, 0) = 2; connect(2, 1, 3, 0) = 3;"
            + "connect(3, 1, 4, 0) = 4;";

    /** All bridges, hosts and links that there can be; port 3 of the bridges 0 to 3 is free. */
    static final String FULL_NETWORK = FIVE_IN_A_ROW
            + "addHost(0, 1) = 0; addHost(0, 2) = 1; addHost(1, 2) = 2; addHost(2, 2) = 3;"
            + "addHost(3, 2) = 4; addHost(4, 1) = 5; addHost(4, 2) = 6; addHost(4, 3) = 7;";

    /** The full network while declarations are on their way. */
    static final String FULL_AND_BUSY = FULL_NETWORK
            + "setTimes(50, 200) = 16; join(0, 0) = 1; join(7, 3) = 1; tick(3) = 18;";

    /**
     * Bridges 0, 1 and 2 in a row with the hosts 0 to 3, and bridge 3 alone with host 4. Applicants
     * and registrars are in every state, host 3 is silent, port 0 of bridge 1 is marked, and the
     * times are not those of a new object.
     */
    static final String BUSY =
            "addBridge() = 0; addBridge() = 1; addBridge() = 2; addBridge() = 3;"
            + "connect(0, 0, 1, 0) = 1; connect(1, 1, 2, 0) = 2; addHost(0, 1) = 0;"
            + "addHost(0, 2) = 1; addHost(1, 2) = 2; addHost(2, 1) = 3; addHost(3, 0) = 4;"
            + "setTimes(4, 20) = 9; join(0, 0) = 1; join(2, 1) = 1; join(3, 2) = 1; tick(8) = 36;"
            + "leave(2, 1) = 1; tick(1) = 1; setSilent(3, true) = 1; join(1, 3) = 1;"
            + "join(4, 3) = 1; leave(0, 0) = 1; join(3, 0) = 1; loseNext(1, 0) = 1;";

    private Networks() {
    }
}
