import java.util.ArrayList;
import java.util.List;

/**
 * The document told a second time, with other means than the program's: objects that know each
 * other, lists of messages, walks through the tree. It is for comparison, not for use.
 */
final class Model {
    private static final int GROUPS = 4;

    private enum Kind { LEAVE_ALL, JOIN, LEAVE }

    private record Message(Kind kind, int group, End receiver) {
    }

    private static final class Applicant {
        int state = GroupRegistration.OBSERVER;
        int joins = 0;

        boolean declares() {
            return state == GroupRegistration.ANXIOUS || state == GroupRegistration.QUIET;
        }

        boolean declare() {
            if (declares()) {
                return false;
            }
            state = GroupRegistration.ANXIOUS;
            joins = 2;
            return true;
        }

        boolean withdraw() {
            if (!declares()) {
                return false;
            }
            state = GroupRegistration.LEAVER;
            return true;
        }

        void hearLeaveAll() {
            if (state == GroupRegistration.QUIET) {
                state = GroupRegistration.ANXIOUS;
                joins = 1;
            }
        }
    }

    private static final class Registrar {
        int state = GroupRegistration.EMPTY;
        int timer = 0;

        void hearLeave(int leaveTime) {
            if (state == GroupRegistration.IN) {
                state = GroupRegistration.LEAVING;
                timer = leaveTime;
            }
        }
    }

    /** One end of a connection: a port or a host. */
    private abstract static class End {
        final List<Applicant> applicants = new ArrayList<>();
        End other = null;

        End() {
            for (int group = 0; group < GROUPS; group++) {
                applicants.add(new Applicant());
            }
        }
    }

    private static final class Port extends End {
        final Bridge bridge;
        List<Registrar> registrars = new ArrayList<>();
        int leaveAllTimer = 0;
        boolean due = false;
        boolean marked = false;

        Port(Bridge bridge) {
            this.bridge = bridge;
            for (int group = 0; group < GROUPS; group++) {
                registrars.add(new Registrar());
            }
        }

        boolean isLinked() {
            return other instanceof Port;
        }
    }

    private static final class Host extends End {
        final int number;
        boolean silent = false;

        Host(int number) {
            this.number = number;
        }
    }

    private static final class Bridge {
        final Port[] ports = new Port[4];

        Bridge() {
            for (int port = 0; port < 4; port++) {
                ports[port] = new Port(this);
            }
        }
    }

    private final List<Bridge> bridges = new ArrayList<>();
    private final List<Host> hosts = new ArrayList<>();
    private int time = 0;
    private int leaveTime = 6;
    private int leaveAllTime = 0;

    int addBridge() {
        if (bridges.size() == 5) {
            return GroupRegistration.FULL;
        }
        bridges.add(new Bridge());
        return bridges.size() - 1;
    }

    int connect(int bridge, int port, int otherBridge, int otherPort) {
        Port one = port(bridge, port);
        Port two = port(otherBridge, otherPort);
        if (one == null || two == null) {
            return GroupRegistration.NO_SUCH_PORT;
        }
        if (one.other != null || two.other != null) {
            return GroupRegistration.PORT_USED;
        }
        if (walk(one.bridge, null, two.bridge) > 0) {
            return GroupRegistration.CYCLE;
        }
        one.other = two;
        two.other = one;
        one.leaveAllTimer = leaveAllTime;
        two.leaveAllTimer = leaveAllTime;
        return links();
    }

    int cut(int bridge, int port) {
        Port one = port(bridge, port);
        if (one == null) {
            return GroupRegistration.NO_SUCH_PORT;
        }
        if (!one.isLinked()) {
            return GroupRegistration.NOT_LINKED;
        }
        Port two = (Port) one.other;
        replace(one);
        replace(two);
        return links();
    }

    /** Puts a new port in the place of an old one. */
    private void replace(Port old) {
        for (int i = 0; i < 4; i++) {
            if (old.bridge.ports[i] == old) {
                old.bridge.ports[i] = new Port(old.bridge);
            }
        }
    }

    int addHost(int bridge, int port) {
        Port place = port(bridge, port);
        if (place == null) {
            return GroupRegistration.NO_SUCH_PORT;
        }
        if (place.other != null) {
            return GroupRegistration.PORT_USED;
        }
        if (hosts.size() == 8) {
            return GroupRegistration.FULL;
        }
        Host host = new Host(hosts.size());
        hosts.add(host);
        host.other = place;
        place.other = host;
        place.leaveAllTimer = leaveAllTime;
        return host.number;
    }

    int setTimes(int leave, int leaveAll) {
        if (leave < 1 || leave > 50 || leaveAll < 0 || leaveAll > 200) {
            return GroupRegistration.BAD_VALUE;
        }
        leaveTime = leave;
        leaveAllTime = leaveAll;
        for (Port port : connected()) {
            port.leaveAllTimer = leaveAll;
        }
        return connected().size();
    }

    int join(int host, int group) {
        int error = hostError(host, group);
        return error != 0 ? error : hosts.get(host).applicants.get(group).declare() ? 1 : 0;
    }

    int leave(int host, int group) {
        int error = hostError(host, group);
        return error != 0 ? error : hosts.get(host).applicants.get(group).withdraw() ? 1 : 0;
    }

    int setSilent(int host, boolean silent) {
        int error = hostError(host, 0);
        if (error != 0) {
            return error;
        }
        boolean before = hosts.get(host).silent;
        hosts.get(host).silent = silent;
        return before == silent ? 0 : 1;
    }

    int loseNext(int bridge, int port) {
        Port sender = port(bridge, port);
        if (sender == null) {
            return GroupRegistration.NO_SUCH_PORT;
        }
        if (!sender.isLinked()) {
            return GroupRegistration.NOT_LINKED;
        }
        boolean before = sender.marked;
        sender.marked = true;
        return before ? 0 : 1;
    }

    int tick(int ticks) {
        if (ticks < 1 || ticks > 100) {
            return GroupRegistration.BAD_VALUE;
        }
        int sent = 0;
        for (int i = 0; i < ticks; i++) {
            partOne();
            partTwo();
            List<Message> kept = new ArrayList<>();
            sent += partThree(kept);
            partFour(kept);
            time++;
        }
        return sent;
    }

    private void partOne() {
        for (Port port : connected()) {
            for (Registrar registrar : port.registrars) {
                if (registrar.state == GroupRegistration.LEAVING && --registrar.timer == 0) {
                    registrar.state = GroupRegistration.EMPTY;
                }
            }
            port.due = port.leaveAllTimer == 1;
            if (port.leaveAllTimer > 1) {
                port.leaveAllTimer--;
            } else if (port.due) {
                port.leaveAllTimer = leaveAllTime;
            }
        }
    }

    private void partTwo() {
        for (Port port : connected()) {
            for (int group = 0; group < GROUPS; group++) {
                if (wanted(port, group)) {
                    port.applicants.get(group).declare();
                } else {
                    port.applicants.get(group).withdraw();
                }
            }
        }
    }

    private int partThree(List<Message> kept) {
        int sent = 0;
        for (Port port : connected()) {
            List<Message> messages = new ArrayList<>();
            if (port.due) {
                messages.add(new Message(Kind.LEAVE_ALL, -1, port.other));
                hearLeaveAll(port);
            }
            sendGroups(port, messages);
            sent += messages.size();
            if (!port.marked) {
                kept.addAll(messages);
            }
            port.marked = false;
        }
        for (Host host : hosts) {
            if (!host.silent) {
                List<Message> messages = new ArrayList<>();
                sendGroups(host, messages);
                sent += messages.size();
                kept.addAll(messages);
            }
        }
        return sent;
    }

    private void sendGroups(End sender, List<Message> messages) {
        for (int group = 0; group < GROUPS; group++) {
            Applicant applicant = sender.applicants.get(group);
            if (applicant.state == GroupRegistration.ANXIOUS) {
                messages.add(new Message(Kind.JOIN, group, sender.other));
                applicant.joins--;
                if (applicant.joins == 0) {
                    applicant.state = GroupRegistration.QUIET;
                }
            } else if (applicant.state == GroupRegistration.LEAVER) {
                messages.add(new Message(Kind.LEAVE, group, sender.other));
                applicant.state = GroupRegistration.OBSERVER;
            }
        }
    }

    private void hearLeaveAll(End end) {
        if (end instanceof Port port) {
            port.registrars.forEach(registrar -> registrar.hearLeave(leaveTime));
        }
        end.applicants.forEach(Applicant::hearLeaveAll);
    }

    private void partFour(List<Message> messages) {
        for (Message message : messages) {
            if (message.kind() == Kind.LEAVE_ALL) {
                hearLeaveAll(message.receiver());
            } else if (message.receiver() instanceof Port port) {
                Registrar registrar = port.registrars.get(message.group());
                if (message.kind() == Kind.JOIN) {
                    registrar.state = GroupRegistration.IN;
                    registrar.timer = 0;
                } else {
                    registrar.hearLeave(leaveTime);
                }
            }
        }
    }

    int time() {
        return time;
    }

    int registrar(int bridge, int port, int group) {
        int error = portError(bridge, port, group);
        return error != 0 ? error : port(bridge, port).registrars.get(group).state;
    }

    int registrarTimer(int bridge, int port, int group) {
        int error = portError(bridge, port, group);
        return error != 0 ? error : port(bridge, port).registrars.get(group).timer;
    }

    int applicant(int bridge, int port, int group) {
        int error = portError(bridge, port, group);
        return error != 0 ? error : port(bridge, port).applicants.get(group).state;
    }

    int hostApplicant(int host, int group) {
        int error = hostError(host, group);
        return error != 0 ? error : hosts.get(host).applicants.get(group).state;
    }

    int leaveAllTimer(int bridge, int port) {
        int error = portError(bridge, port, 0);
        return error != 0 ? error : port(bridge, port).leaveAllTimer;
    }

    int isSettled() {
        for (Host host : hosts) {
            if (!host.silent && isBusy(host)) {
                return 0;
            }
        }
        for (Port port : connected()) {
            if (isBusy(port)) {
                return 0;
            }
            for (int group = 0; group < GROUPS; group++) {
                boolean quiet = port.applicants.get(group).state == GroupRegistration.QUIET;
                if (quiet != wanted(port, group)
                        || port.registrars.get(group).state == GroupRegistration.LEAVING) {
                    return 0;
                }
            }
        }
        return 1;
    }

    private static boolean isBusy(End end) {
        return end.applicants.stream().anyMatch(applicant ->
                applicant.state == GroupRegistration.ANXIOUS
                        || applicant.state == GroupRegistration.LEAVER);
    }

    int receivers(int host, int group) {
        int error = hostError(host, group);
        return error != 0 ? error : flood((Port) hosts.get(host).other, group);
    }

    private int flood(Port arrival, int group) {
        int got = 0;
        for (Port port : arrival.bridge.ports) {
            boolean registered = port.registrars.get(group).state != GroupRegistration.EMPTY;
            if (port != arrival && registered && port.other instanceof Host host) {
                got |= 1 << host.number;
            } else if (port != arrival && registered && port.other instanceof Port next) {
                got |= flood(next, group);
            }
        }
        return got;
    }

    int missedCount(int host, int group) {
        int error = hostError(host, group);
        if (error != 0) {
            return error;
        }
        int got = receivers(host, group);
        return (int) hosts.stream()
                .filter(other -> other.number != host && distance(host, other.number) != 0)
                .filter(other -> other.applicants.get(group).declares())
                .filter(other -> (got >> other.number & 1) == 0)
                .count();
    }

    int needlessCount(int host, int group) {
        int error = hostError(host, group);
        if (error != 0) {
            return error;
        }
        int got = receivers(host, group);
        return (int) hosts.stream()
                .filter(other -> (got >> other.number & 1) == 1)
                .filter(other -> !other.applicants.get(group).declares())
                .count();
    }

    int distance(int host, int other) {
        if (hostError(host, 0) != 0 || hostError(other, 0) != 0) {
            return GroupRegistration.NO_SUCH_HOST;
        }
        Bridge from = ((Port) hosts.get(host).other).bridge;
        return walk(from, null, ((Port) hosts.get(other).other).bridge);
    }

    /** The bridges on the way, both ends counted; 0 if there is no way. */
    private static int walk(Bridge from, Port arrival, Bridge to) {
        if (from == to) {
            return 1;
        }
        for (Port port : from.ports) {
            if (port != arrival && port.other instanceof Port next) {
                int rest = walk(next.bridge, next, to);
                if (rest > 0) {
                    return rest + 1;
                }
            }
        }
        return 0;
    }

    private boolean wanted(Port port, int group) {
        for (Port other : port.bridge.ports) {
            if (other != port && other.other != null
                    && other.registrars.get(group).state != GroupRegistration.EMPTY) {
                return true;
            }
        }
        return false;
    }

    private List<Port> connected() {
        List<Port> ports = new ArrayList<>();
        for (Bridge bridge : bridges) {
            for (Port port : bridge.ports) {
                if (port.other != null) {
                    ports.add(port);
                }
            }
        }
        return ports;
    }

    private int links() {
        return (int) connected().stream().filter(Port::isLinked).count() / 2;
    }

    private Port port(int bridge, int port) {
        if (bridge < 0 || bridge >= bridges.size() || port < 0 || port > 3) {
            return null;
        }
        return bridges.get(bridge).ports[port];
    }

    private int portError(int bridge, int port, int group) {
        if (port(bridge, port) == null) {
            return GroupRegistration.NO_SUCH_PORT;
        }
        return group < 0 || group > 3 ? GroupRegistration.NO_SUCH_GROUP : 0;
    }

    private int hostError(int host, int group) {
        if (host < 0 || host >= hosts.size()) {
            return GroupRegistration.NO_SUCH_HOST;
        }
        return group < 0 || group > 3 ? GroupRegistration.NO_SUCH_GROUP : 0;
    }
}
