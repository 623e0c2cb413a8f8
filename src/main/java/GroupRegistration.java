import java.util.Arrays;

/**
 * A simulator of multicast group registration on a tree of bridges.
 *
 * <p>Inside, ports and hosts are numbered together as stations: the ports first, by bridge and
 * port, then the hosts. Ascending stations are then the document's order of sending, and a set of
 * stations fits into the bits of an int. A cell is one group of one station.
 */
public final class GroupRegistration {
    public static final int NO_SUCH_PORT = -1;
    public static final int NO_SUCH_HOST = -2;
    public static final int NO_SUCH_GROUP = -3;
    public static final int BAD_VALUE = -4;
    public static final int FULL = -5;
    public static final int PORT_USED = -6;
    public static final int NOT_LINKED = -7;
    public static final int CYCLE = -8;
    public static final int EMPTY = 0, IN = 1, LEAVING = 2;
    public static final int OBSERVER = 0, ANXIOUS = 1, QUIET = 2, LEAVER = 3;

    private static final int MAX_BRIDGES = 5;
    private static final int PORTS_PER_BRIDGE = 4;
    private static final int MAX_PORTS = MAX_BRIDGES * PORTS_PER_BRIDGE;
    private static final int MAX_HOSTS = 8;
    private static final int MAX_STATIONS = MAX_PORTS + MAX_HOSTS;
    private static final int GROUPS = 4;
    private static final int NOBODY = -1;

    private static final int FIRST_LEAVE_TIME = 6;
    private static final int MAX_LEAVE_TIME = 50;
    private static final int MAX_LEAVE_ALL_TIME = 200;
    private static final int MAX_TICKS = 100;
    private static final int JOINS_OF_A_NEW_DECLARATION = 2;
    private static final int JOINS_AFTER_A_LEAVE_ALL = 1;

    private static final int NO_MESSAGE = 0;
    private static final int JOIN_MESSAGE = 1;
    private static final int LEAVE_MESSAGE = 2;

    private final Network network = new Network();
    private final Registrars registrars = new Registrars();
    private final Applicants applicants = new Applicants();
    private final Outbox outbox = new Outbox();
    private final int[] leaveAllCountdown = new int[MAX_PORTS];
    private final boolean[] leaveAllDue = new boolean[MAX_PORTS];
    // Only linked ports are ever marked and only hosts are ever silent; the rows have room for all
    // stations so that sending and receiving need not ask what a station is.
    private final boolean[] markedForLoss = new boolean[MAX_STATIONS];
    private final boolean[] silenced = new boolean[MAX_STATIONS];
    private int leaveTime = FIRST_LEAVE_TIME;
    private int leaveAllTime = 0;
    private int now = 0;

    public GroupRegistration() {
    }

    // ---- network

    public int addBridge() {
        if (network.bridgeCount >= MAX_BRIDGES) {
            return FULL;
        }
        int bridge = network.bridgeCount;
        network.bridgeCount++;
        return bridge;
    }

    public int connect(int bridge, int port, int otherBridge, int otherPort) {
        int station = network.stationOfPort(bridge, port);
        int otherStation = network.stationOfPort(otherBridge, otherPort);
        if (station < 0 || otherStation < 0) {
            return NO_SUCH_PORT;
        }
        if (network.isConnected(station) || network.isConnected(otherStation)) {
            return PORT_USED;
        }
        if (network.bridgesOnWay(bridge, otherBridge) > 0) {
            return CYCLE;
        }
        network.tie(station, otherStation);
        network.linkCount++;
        startPort(station);
        startPort(otherStation);
        return network.linkCount;
    }

    public int cut(int bridge, int port) {
        int station = network.stationOfPort(bridge, port);
        if (station < 0) {
            return station;
        }
        int otherStation = network.otherEnd[station];
        if (!isPort(otherStation)) {
            return NOT_LINKED;
        }
        network.untie(station, otherStation);
        network.linkCount--;
        clearPort(station);
        clearPort(otherStation);
        return network.linkCount;
    }

    public int addHost(int bridge, int port) {
        int station = network.stationOfPort(bridge, port);
        if (station < 0) {
            return station;
        }
        if (network.isConnected(station)) {
            return PORT_USED;
        }
        if (network.hostCount >= MAX_HOSTS) {
            return FULL;
        }
        int host = network.hostCount;
        network.hostCount++;
        network.tie(station, MAX_PORTS + host);
        startPort(station);
        return host;
    }

    // ---- settings and events

    public int setTimes(int leave, int leaveAll) {
        if (leave < 1 || leave > MAX_LEAVE_TIME || leaveAll < 0 || leaveAll > MAX_LEAVE_ALL_TIME) {
            return BAD_VALUE;
        }
        leaveTime = leave;
        leaveAllTime = leaveAll;
        int connectedPorts = 0;
        for (int port = 0; port < MAX_PORTS; port++) {
            if (network.isConnected(port)) {
                startPort(port);
                connectedPorts++;
            }
        }
        return connectedPorts;
    }

    public int join(int host, int group) {
        int cell = cellOfHost(host, group);
        if (cell < 0) {
            return cell;
        }
        return applicants.startDeclaring(cell) ? 1 : 0;
    }

    public int leave(int host, int group) {
        int cell = cellOfHost(host, group);
        if (cell < 0) {
            return cell;
        }
        return applicants.stopDeclaring(cell) ? 1 : 0;
    }

    public int setSilent(int host, boolean silent) {
        int station = network.stationOfHost(host);
        if (station < 0) {
            return station;
        }
        boolean changed = silenced[station] != silent;
        silenced[station] = silent;
        return changed ? 1 : 0;
    }

    public int loseNext(int bridge, int port) {
        int station = network.stationOfPort(bridge, port);
        if (station < 0) {
            return station;
        }
        if (!isPort(network.otherEnd[station])) {
            return NOT_LINKED;
        }
        boolean changed = !markedForLoss[station];
        markedForLoss[station] = true;
        return changed ? 1 : 0;
    }

    public int tick(int ticks) {
        if (ticks < 1 || ticks > MAX_TICKS) {
            return BAD_VALUE;
        }
        int sent = 0;
        for (int done = 0; done < ticks; done++) {
            runTimers();
            propagate();
            sent += sendAll();
            receiveAll();
            now++;
        }
        return sent;
    }

    public int time() {
        return now;
    }

    // ---- states

    public int registrar(int bridge, int port, int group) {
        int cell = cellOfPort(bridge, port, group);
        return cell < 0 ? cell : registrars.state[cell];
    }

    public int registrarTimer(int bridge, int port, int group) {
        int cell = cellOfPort(bridge, port, group);
        return cell < 0 ? cell : registrars.timer[cell];
    }

    public int applicant(int bridge, int port, int group) {
        int cell = cellOfPort(bridge, port, group);
        return cell < 0 ? cell : applicants.state[cell];
    }

    public int hostApplicant(int host, int group) {
        int cell = cellOfHost(host, group);
        return cell < 0 ? cell : applicants.state[cell];
    }

    public int leaveAllTimer(int bridge, int port) {
        int station = network.stationOfPort(bridge, port);
        return station < 0 ? station : leaveAllCountdown[station];
    }

    public int isSettled() {
        for (int station = 0; station < MAX_STATIONS; station++) {
            if (!silenced[station] && hasToSend(station)) {
                return 0;
            }
        }
        for (int port = 0; port < MAX_PORTS; port++) {
            if (network.isConnected(port) && !isPortSettled(port)) {
                return 0;
            }
        }
        return 1;
    }

    // ---- delivery

    public int receivers(int host, int group) {
        int cell = cellOfHost(host, group);
        return cell < 0 ? cell : hostsReached(host, group);
    }

    public int missedCount(int host, int group) {
        int cell = cellOfHost(host, group);
        if (cell < 0) {
            return cell;
        }
        int reached = hostsReached(host, group);
        int missed = 0;
        for (int other = 0; other < network.hostCount; other++) {
            boolean shouldGetIt = other != host
                    && bridgesBetweenHosts(host, other) > 0
                    && applicants.isDeclaring(cellOf(MAX_PORTS + other, group));
            if (shouldGetIt && !contains(reached, other)) {
                missed++;
            }
        }
        return missed;
    }

    public int needlessCount(int host, int group) {
        int cell = cellOfHost(host, group);
        if (cell < 0) {
            return cell;
        }
        int reached = hostsReached(host, group);
        int needless = 0;
        for (int other = 0; other < network.hostCount; other++) {
            boolean declares = applicants.isDeclaring(cellOf(MAX_PORTS + other, group));
            if (contains(reached, other) && !declares) {
                needless++;
            }
        }
        return needless;
    }

    public int distance(int host, int other) {
        if (network.stationOfHost(host) < 0 || network.stationOfHost(other) < 0) {
            return NO_SUCH_HOST;
        }
        return bridgesBetweenHosts(host, other);
    }

    // ---- stations and cells

    private static boolean isStation(int number) {
        return number >= 0 && number < MAX_STATIONS;
    }

    private static boolean isPort(int station) {
        return station >= 0 && station < MAX_PORTS;
    }

    private static boolean isGroup(int group) {
        return group >= 0 && group < GROUPS;
    }

    private static int bridgeOf(int port) {
        return port / PORTS_PER_BRIDGE;
    }

    private static int cellOf(int station, int group) {
        return station * GROUPS + group;
    }

    private static boolean contains(int bitSet, int bit) {
        return (bitSet & (1 << bit)) != 0;
    }

    /** The cell, which is not negative, or the error that the document asks for. */
    private int cellOfPort(int bridge, int port, int group) {
        int station = network.stationOfPort(bridge, port);
        if (station < 0) {
            return station;
        }
        return isGroup(group) ? cellOf(station, group) : NO_SUCH_GROUP;
    }

    /** The cell, which is not negative, or the error that the document asks for. */
    private int cellOfHost(int host, int group) {
        int station = network.stationOfHost(host);
        if (station < 0) {
            return station;
        }
        return isGroup(group) ? cellOf(station, group) : NO_SUCH_GROUP;
    }

    // ---- ports

    /** Starts the leave-all timer alone: all else of a port is clear as long as it is free. */
    private void startPort(int port) {
        leaveAllCountdown[port] = leaveAllTime;
    }

    private void clearPort(int port) {
        for (int group = 0; group < GROUPS; group++) {
            registrars.change(cellOf(port, group), EMPTY, 0);
            applicants.change(cellOf(port, group), OBSERVER, 0);
        }
        leaveAllCountdown[port] = 0;
        markedForLoss[port] = false;
    }

    private boolean isRegisteredAt(int port, int group) {
        return network.isConnected(port) && registrars.state[cellOf(port, group)] != EMPTY;
    }

    private boolean isWanted(int port, int group) {
        int first = bridgeOf(port) * PORTS_PER_BRIDGE;
        for (int other = first; other < first + PORTS_PER_BRIDGE; other++) {
            if (other != port && isRegisteredAt(other, group)) {
                return true;
            }
        }
        return false;
    }

    private boolean hasToSend(int station) {
        for (int group = 0; group < GROUPS; group++) {
            int state = applicants.state[cellOf(station, group)];
            if (state == ANXIOUS || state == LEAVER) {
                return true;
            }
        }
        return false;
    }

    private boolean isPortSettled(int port) {
        for (int group = 0; group < GROUPS; group++) {
            int cell = cellOf(port, group);
            boolean declares = applicants.state[cell] == QUIET;
            if (registrars.state[cell] == LEAVING || declares != isWanted(port, group)) {
                return false;
            }
        }
        return true;
    }

    // ---- the parts of a tick

    private void runTimers() {
        for (int port = 0; port < MAX_PORTS; port++) {
            leaveAllDue[port] = false;
            if (network.isConnected(port)) {
                countDownRegistrars(port);
                countDownToLeaveAll(port);
            }
        }
    }

    private void countDownRegistrars(int port) {
        for (int group = 0; group < GROUPS; group++) {
            registrars.countDown(cellOf(port, group));
        }
    }

    private void countDownToLeaveAll(int port) {
        if (leaveAllCountdown[port] > 0) {
            leaveAllCountdown[port]--;
            if (leaveAllCountdown[port] == 0) {
                leaveAllDue[port] = true;
                leaveAllCountdown[port] = leaveAllTime;
            }
        }
    }

    private void propagate() {
        for (int port = 0; port < MAX_PORTS; port++) {
            if (network.isConnected(port)) {
                propagateTo(port);
            }
        }
    }

    private void propagateTo(int port) {
        for (int group = 0; group < GROUPS; group++) {
            if (isWanted(port, group)) {
                applicants.startDeclaring(cellOf(port, group));
            } else {
                applicants.stopDeclaring(cellOf(port, group));
            }
        }
    }

    private int sendAll() {
        outbox.clear();
        int sent = 0;
        for (int station = 0; station < MAX_STATIONS; station++) {
            if (network.isConnected(station) && !silenced[station]) {
                sent += sendFrom(station);
            }
        }
        return sent;
    }

    private int sendFrom(int station) {
        int sent = 0;
        if (isPort(station) && leaveAllDue[station]) {
            outbox.leaveAll[station] = true;
            obeyLeaveAll(station);
            sent++;
        }
        for (int group = 0; group < GROUPS; group++) {
            int cell = cellOf(station, group);
            outbox.message[cell] = applicants.nextMessage(cell);
            if (outbox.message[cell] != NO_MESSAGE) {
                sent++;
            }
        }
        return sent;
    }

    /** A leave-all does the same to the port that sends it as to the station that receives it. */
    private void obeyLeaveAll(int station) {
        for (int group = 0; group < GROUPS; group++) {
            int cell = cellOf(station, group);
            if (isPort(station)) {
                registrars.startLeaving(cell, leaveTime);
            }
            applicants.declareAgain(cell);
        }
    }

    private void receiveAll() {
        for (int sender = 0; sender < MAX_STATIONS; sender++) {
            int receiver = network.otherEnd[sender];
            if (isStation(receiver) && !markedForLoss[sender]) {
                receiveFrom(sender, receiver);
            }
            markedForLoss[sender] = false;
        }
    }

    private void receiveFrom(int sender, int receiver) {
        if (outbox.leaveAll[sender]) {
            obeyLeaveAll(receiver);
        }
        if (isPort(receiver)) {
            for (int group = 0; group < GROUPS; group++) {
                int message = outbox.message[cellOf(sender, group)];
                registrars.hear(cellOf(receiver, group), message, leaveTime);
            }
        }
    }

    // ---- the way of a frame

    private int bridgesBetweenHosts(int host, int otherHost) {
        int port = network.otherEnd[MAX_PORTS + host];
        int otherPort = network.otherEnd[MAX_PORTS + otherHost];
        if (!isPort(port) || !isPort(otherPort)) {
            return 0;
        }
        return network.bridgesOnWay(bridgeOf(port), bridgeOf(otherPort));
    }

    /** Follows the frame bridge by bridge: in a tree it passes no bridge twice. */
    private int hostsReached(int sender, int group) {
        int port = network.otherEnd[MAX_PORTS + sender];
        if (!isPort(port)) {
            return 0;
        }
        int hosts = 0;
        int arrivals = 1 << port;
        for (int passed = 0; passed < MAX_BRIDGES; passed++) {
            arrivals = nextArrivals(arrivals, group);
            hosts |= arrivals >>> MAX_PORTS;
        }
        return hosts;
    }

    /** The set of stations that the frame gets to from the set of stations where it arrived. */
    private int nextArrivals(int arrivals, int group) {
        int next = 0;
        for (int port = 0; port < MAX_PORTS; port++) {
            if (isRegisteredAt(port, group) && arrivesBeside(port, arrivals)) {
                next |= 1 << network.otherEnd[port];
            }
        }
        return next;
    }

    private static boolean arrivesBeside(int port, int arrivals) {
        int first = bridgeOf(port) * PORTS_PER_BRIDGE;
        for (int other = first; other < first + PORTS_PER_BRIDGE; other++) {
            if (other != port && contains(arrivals, other)) {
                return true;
            }
        }
        return false;
    }

    /** Which bridges and hosts there are, and which stations are connected with each other. */
    private static final class Network {
        private final int[] otherEnd = new int[MAX_STATIONS];
        private int bridgeCount = 0;
        private int hostCount = 0;
        private int linkCount = 0;

        private Network() {
            Arrays.fill(otherEnd, NOBODY);
        }

        private int stationOfPort(int bridge, int port) {
            if (bridge < 0 || bridge >= bridgeCount || port < 0 || port >= PORTS_PER_BRIDGE) {
                return NO_SUCH_PORT;
            }
            return bridge * PORTS_PER_BRIDGE + port;
        }

        private int stationOfHost(int host) {
            if (host < 0 || host >= hostCount) {
                return NO_SUCH_HOST;
            }
            return MAX_PORTS + host;
        }

        private boolean isConnected(int station) {
            return isStation(otherEnd[station]);
        }

        private void tie(int station, int otherStation) {
            otherEnd[station] = otherStation;
            otherEnd[otherStation] = station;
        }

        private void untie(int station, int otherStation) {
            otherEnd[station] = NOBODY;
            otherEnd[otherStation] = NOBODY;
        }

        /** The number of bridges from one to the other, both counted; 0 if no way leads there. */
        private int bridgesOnWay(int bridge, int otherBridge) {
            int reached = 1 << bridge;
            for (int count = 1; count <= MAX_BRIDGES; count++) {
                if (contains(reached, otherBridge)) {
                    return count;
                }
                reached |= neighboursOf(reached);
            }
            return 0;
        }

        private int neighboursOf(int bridges) {
            int neighbours = 0;
            for (int port = 0; port < MAX_PORTS; port++) {
                int otherPort = otherEnd[port];
                if (contains(bridges, bridgeOf(port)) && isPort(otherPort)) {
                    neighbours |= 1 << bridgeOf(otherPort);
                }
            }
            return neighbours;
        }
    }

    /** The registrars of all ports, by cell. */
    private static final class Registrars {
        private final int[] state = new int[MAX_PORTS * GROUPS];
        private final int[] timer = new int[MAX_PORTS * GROUPS];

        private Registrars() {
            Arrays.fill(state, EMPTY);
        }

        private void change(int cell, int newState, int newTimer) {
            state[cell] = newState;
            timer[cell] = newTimer;
        }

        private void startLeaving(int cell, int leaveTime) {
            if (state[cell] == IN) {
                change(cell, LEAVING, leaveTime);
            }
        }

        private void hear(int cell, int message, int leaveTime) {
            if (message == JOIN_MESSAGE) {
                change(cell, IN, 0);
            } else if (message == LEAVE_MESSAGE) {
                startLeaving(cell, leaveTime);
            }
        }

        private void countDown(int cell) {
            if (state[cell] == LEAVING) {
                timer[cell]--;
                if (timer[cell] == 0) {
                    state[cell] = EMPTY;
                }
            }
        }
    }

    /** The applicants of all ports and hosts, by cell. */
    private static final class Applicants {
        private final int[] state = new int[MAX_STATIONS * GROUPS];
        private final int[] joinsToSend = new int[MAX_STATIONS * GROUPS];

        private Applicants() {
            Arrays.fill(state, OBSERVER);
        }

        private void change(int cell, int newState, int newJoinsToSend) {
            state[cell] = newState;
            joinsToSend[cell] = newJoinsToSend;
        }

        private boolean isDeclaring(int cell) {
            return state[cell] == ANXIOUS || state[cell] == QUIET;
        }

        private boolean startDeclaring(int cell) {
            if (isDeclaring(cell)) {
                return false;
            }
            change(cell, ANXIOUS, JOINS_OF_A_NEW_DECLARATION);
            return true;
        }

        private boolean stopDeclaring(int cell) {
            if (!isDeclaring(cell)) {
                return false;
            }
            change(cell, LEAVER, 0);
            return true;
        }

        private void declareAgain(int cell) {
            if (state[cell] == QUIET) {
                change(cell, ANXIOUS, JOINS_AFTER_A_LEAVE_ALL);
            }
        }

        /** The message that the applicant sends now; it no longer has to send it afterwards. */
        private int nextMessage(int cell) {
            if (state[cell] == ANXIOUS) {
                joinsToSend[cell]--;
                if (joinsToSend[cell] == 0) {
                    state[cell] = QUIET;
                }
                return JOIN_MESSAGE;
            }
            if (state[cell] == LEAVER) {
                state[cell] = OBSERVER;
                return LEAVE_MESSAGE;
            }
            return NO_MESSAGE;
        }
    }

    /**
     * What each station has sent in the running tick. One flag and one message a cell are enough
     * to keep the order: a station sends its leave-all first, then at most one message a group.
     */
    private static final class Outbox {
        private final boolean[] leaveAll = new boolean[MAX_STATIONS];
        private final int[] message = new int[MAX_STATIONS * GROUPS];

        private void clear() {
            for (int station = 0; station < MAX_STATIONS; station++) {
                leaveAll[station] = false;
            }
            Arrays.fill(message, NO_MESSAGE);
        }
    }
}
