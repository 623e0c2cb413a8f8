import java.util.List;

/**
 * "Errors.": arguments may be any int. Every argument of every method gets numbers that are just out
 * of its range and numbers that are far out of it, alone and together with another wrong argument;
 * the error that is listed first must be returned, and nothing may change.
 */
public final class AnyIntTest {
    private static final String ORDER = "Each method lists its errors in the order in which they are checked.";
    private static final String NOTHING = "An error changes nothing.";
    private static final String NO_PORT = "NO_SUCH_PORT means that the bridge or the port does not exist.";

    // Besides the ends of the range, numbers that become small ones when they are multiplied by 4,
    // shifted by, or cut to a byte or a short.
    private static final int[] FAR_OUT = {
        Integer.MIN_VALUE, Integer.MIN_VALUE + 1, Integer.MIN_VALUE + 4, -(1 << 30), -65536, -256, -32, -20, -4, -2,
        20, 28, 32, 33, 64, 256, 257, 65536, 65537, 1 << 29, 1 << 30, (1 << 30) + 1, Integer.MAX_VALUE - 1,
        Integer.MAX_VALUE
    };

    /** An argument: a value that is allowed in the network, the range, and the error out of it. */
    private record Argument(int allowed, int least, int greatest, String error) {
    }

    // The range of bridges and hosts is that of the busy network: it has 4 bridges and 5 hosts.
    private static final Argument BRIDGE = new Argument(3, 0, 3, "NO_SUCH_PORT");
    private static final Argument OTHER_BRIDGE = new Argument(2, 0, 3, "NO_SUCH_PORT");
    private static final Argument PORT = new Argument(3, 0, 3, "NO_SUCH_PORT");
    private static final Argument HOST = new Argument(4, 0, 4, "NO_SUCH_HOST");
    private static final Argument GROUP = new Argument(3, 0, 3, "NO_SUCH_GROUP");
    private static final Argument LEAVE = new Argument(1, 1, 50, "BAD_VALUE");
    private static final Argument LEAVE_ALL = new Argument(200, 0, 200, "BAD_VALUE");
    private static final Argument TICKS = new Argument(100, 1, 100, "BAD_VALUE");

    private final String method;
    private final List<Argument> arguments;
    private final String ending;

    private AnyIntTest(String method, String ending, Argument... arguments) {
        this.method = method;
        this.arguments = List.of(arguments);
        this.ending = ending;
    }

    public static void main(String[] args) {
        AnyIntTest[] methods = {
            new AnyIntTest("connect", "", BRIDGE, PORT, OTHER_BRIDGE, PORT),
            new AnyIntTest("cut", "", BRIDGE, PORT),
            new AnyIntTest("addHost", "", BRIDGE, PORT),
            new AnyIntTest("setTimes", "", LEAVE, LEAVE_ALL),
            new AnyIntTest("join", "", HOST, GROUP),
            new AnyIntTest("leave", "", HOST, GROUP),
            new AnyIntTest("setSilent", ", true", HOST),
            new AnyIntTest("setSilent", ", false", HOST),
            new AnyIntTest("loseNext", "", BRIDGE, PORT),
            new AnyIntTest("tick", "", TICKS),
            new AnyIntTest("registrar", "", BRIDGE, PORT, GROUP),
            new AnyIntTest("registrarTimer", "", BRIDGE, PORT, GROUP),
            new AnyIntTest("applicant", "", BRIDGE, PORT, GROUP),
            new AnyIntTest("hostApplicant", "", HOST, GROUP),
            new AnyIntTest("leaveAllTimer", "", BRIDGE, PORT),
            new AnyIntTest("receivers", "", HOST, GROUP),
            new AnyIntTest("missedCount", "", HOST, GROUP),
            new AnyIntTest("needlessCount", "", HOST, GROUP),
            new AnyIntTest("distance", "", HOST, HOST),
        };
        for (AnyIntTest one : methods) {
            one.wrongArguments();
            one.pairsOfWrongArguments();
        }
        noPort();
        Script.end();
    }

    private void wrongArguments() {
        for (int place = 0; place < arguments.size(); place++) {
            Argument argument = arguments.get(place);
            check(NOTHING, place, argument.least - 1, place, argument.least - 1);
            check(NOTHING, place, argument.greatest + 1, place, argument.greatest + 1);
            for (int number : FAR_OUT) {
                if (number < argument.least || number > argument.greatest) {
                    check(NOTHING, place, number, place, number);
                }
            }
        }
    }

    private void pairsOfWrongArguments() {
        for (int first = 0; first < arguments.size(); first++) {
            for (int second = first + 1; second < arguments.size(); second++) {
                int[] some = {Integer.MIN_VALUE, arguments.get(first).least - 1, Integer.MAX_VALUE};
                int[] others = {Integer.MIN_VALUE, arguments.get(second).greatest + 1, Integer.MAX_VALUE};
                for (int one : some) {
                    for (int other : others) {
                        check(ORDER, first, one, second, other);
                    }
                }
            }
        }
    }

    /** The methods take their arguments in the order of their errors: the first wrong one counts. */
    private void check(String quote, int first, int one, int second, int other) {
        StringBuilder call = new StringBuilder(method).append('(');
        for (int place = 0; place < arguments.size(); place++) {
            int number = place == first ? one : place == second ? other : arguments.get(place).allowed;
            call.append(place == 0 ? "" : ", ").append(number);
        }
        call.append(ending).append(") = ").append(arguments.get(first).error);
        Sentence.changesNothing(Sentence.DESCRIPTION, quote, method, Networks.BUSY, call.toString());
    }

    private static void noPort() {
        Sentence.holds(Sentence.DESCRIPTION, NO_PORT, "the bridge, the port, both; not a port that is free",
                "leaveAllTimer(0, 0) = NO_SUCH_PORT; addBridge() = 0; leaveAllTimer(0, 0) = 0;",
                "leaveAllTimer(1, 3) = NO_SUCH_PORT; leaveAllTimer(0, 4) = NO_SUCH_PORT;",
                "leaveAllTimer(1, 4) = NO_SUCH_PORT; leaveAllTimer(0, 3) = 0");
        Sentence.holds(Sentence.DESCRIPTION, NO_PORT, "port 4 of a bridge is not port 0 of the next",
                "addBridge() = 0; addBridge() = 1; addHost(1, 0) = 0; addHost(0, 4) = NO_SUCH_PORT;",
                "addHost(1, -1) = NO_SUCH_PORT; addHost(0, 3) = 1; setTimes(6, 5) = 2;",
                "leaveAllTimer(0, 4) = NO_SUCH_PORT; leaveAllTimer(1, -1) = NO_SUCH_PORT");
    }
}
