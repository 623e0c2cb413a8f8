import java.util.Random;

/** All promises: long runs of drawn calls, each answer compared with that of the model. */
public final class ModelTest {
    private static final int RUNS = 4000;
    private static final int CALLS = 512;
    private static final int[] ODD_NUMBERS = {
        -1, 4, 5, 8, 9, 31, 32, 33, 64, -2147483648, 2147483647, 1073741824, -1073741824
    };

    private final Random random;
    private final boolean manyErrors;
    private final GroupRegistration object = new GroupRegistration();
    private final Model model = new Model();
    private final String run;

    private ModelTest(int seed) {
        random = new Random(seed);
        manyErrors = seed % 4 == 0;
        run = "run " + seed + ", call ";
    }

    public static void main(String[] args) {
        for (int seed = 0; seed < RUNS; seed++) {
            new ModelTest(seed).compare();
        }
        Script.end();
    }

    /**
     * Builds first, so that most calls meet a network in which something goes on. Ends with the
     * first wrong answer, since those behind it tell nothing new.
     */
    private void compare() {
        int building = random.nextInt(60);
        int wrongBefore = Script.wrongAnswers();
        for (int call = 0; call < CALLS && Script.wrongAnswers() == wrongBefore; call++) {
            String name = run + call + ": ";
            if (call < building) {
                build(name);
            } else if (random.nextInt(100) < 35) {
                change(name);
            } else {
                ask(name);
            }
        }
    }

    private int number(int bound) {
        if (random.nextInt(manyErrors ? 5 : 60) == 0) {
            return ODD_NUMBERS[random.nextInt(ODD_NUMBERS.length)];
        }
        return random.nextInt(bound);
    }

    private void build(String name) {
        int bridge = number(5);
        int port = number(4);
        switch (random.nextInt(4)) {
            case 0 -> Script.due(name + "addBridge", object.addBridge(), model.addBridge());
            case 1 -> Script.due(name + "addHost", object.addHost(bridge, port), model.addHost(bridge, port));
            default -> {
                int otherBridge = number(5);
                int otherPort = number(4);
                Script.due(name + "connect", object.connect(bridge, port, otherBridge, otherPort),
                        model.connect(bridge, port, otherBridge, otherPort));
            }
        }
    }

    private void change(String name) {
        int host = number(8);
        int group = number(4);
        int bridge = number(5);
        int port = number(4);
        boolean silent = random.nextInt(3) == 0;
        switch (random.nextInt(20)) {
            case 0, 1, 2, 3 -> Script.due(name + "join", object.join(host, group), model.join(host, group));
            case 4, 5 -> Script.due(name + "leave", object.leave(host, group), model.leave(host, group));
            case 6, 7 -> Script.due(name + "setSilent", object.setSilent(host, silent), model.setSilent(host, silent));
            case 8, 9 -> Script.due(name + "loseNext", object.loseNext(bridge, port), model.loseNext(bridge, port));
            case 10 -> Script.due(name + "cut", object.cut(bridge, port), model.cut(bridge, port));
            case 11 -> {
                int leave = number(random.nextBoolean() ? 5 : 52);
                int leaveAll = number(random.nextBoolean() ? 8 : 203);
                Script.due(name + "setTimes", object.setTimes(leave, leaveAll), model.setTimes(leave, leaveAll));
            }
            case 12, 13 -> build(name);
            default -> {
                int ticks = random.nextInt(4) == 0 ? number(103) : number(4);
                Script.due(name + "tick", object.tick(ticks), model.tick(ticks));
            }
        }
    }

    private void ask(String name) {
        int host = number(8);
        int other = number(8);
        int group = number(4);
        int bridge = number(5);
        int port = number(4);
        switch (random.nextInt(11)) {
            case 0 -> Script.due(name + "time", object.time(), model.time());
            case 1 -> Script.due(name + "registrar", object.registrar(bridge, port, group), model.registrar(bridge, port, group));
            case 2 -> Script.due(name + "registrarTimer", object.registrarTimer(bridge, port, group), model.registrarTimer(bridge, port, group));
            case 3 -> Script.due(name + "applicant", object.applicant(bridge, port, group), model.applicant(bridge, port, group));
            case 4 -> Script.due(name + "hostApplicant", object.hostApplicant(host, group), model.hostApplicant(host, group));
            case 5 -> Script.due(name + "leaveAllTimer", object.leaveAllTimer(bridge, port), model.leaveAllTimer(bridge, port));
            case 6 -> Script.due(name + "isSettled", object.isSettled(), model.isSettled());
            case 7 -> Script.due(name + "receivers", object.receivers(host, group), model.receivers(host, group));
            case 8 -> Script.due(name + "missedCount", object.missedCount(host, group), model.missedCount(host, group));
            case 9 -> Script.due(name + "needlessCount", object.needlessCount(host, group), model.needlessCount(host, group));
            default -> Script.due(name + "distance", object.distance(host, other), model.distance(host, other));
        }
    }
}
