import java.util.ArrayList;
import java.util.List;

/**
 * Looks whether a call has changed something. Two objects get the same calls, but one of them also
 * the call in question; from then on both must answer alike. What an object holds without telling
 * it (marks, silence, joins to send, the times) is seen in what later calls answer, so every view
 * has two objects of its own, and so that none is called more often than the document allows.
 */
final class Twins {
    private static final int BRIDGES = 5;
    private static final int PORTS = 4;
    private static final int HOSTS = 8;
    private static final int GROUPS = 4;

    private interface View {
        void look(GroupRegistration object, Answers answers);
    }

    /** Answers in the order of the calls, each with the call. */
    private static final class Answers {
        private final List<String> list = new ArrayList<>();

        private void add(String call, int answer, int... arguments) {
            StringBuilder text = new StringBuilder(call);
            for (int argument : arguments) {
                text.append(' ').append(argument);
            }
            list.add(text.append(" = ").append(answer).toString());
        }
    }

    private static final List<View> VIEWS = List.of(
            Twins::states,
            Twins::deliveries,
            Twins::marksAndSilence,
            Twins::growth,
            Twins::cuts,
            (object, answers) -> statesAfter(object, answers, 1),
            (object, answers) -> statesAfter(object, answers, 2),
            (object, answers) -> statesAfter(object, answers, 3),
            (object, answers) -> statesAfter(object, answers, 7),
            (object, answers) -> statesAfter(object, answers, 60),
            Twins::statesAfterLeaves,
            Twins::statesAfterJoins,
            Twins::statesAfterLeaveAlls);

    private Twins() {
    }

    /** The call is written with its answer, as in a script; it comes behind the setup. */
    static void changesNothing(String name, String setup, String call) {
        List<String> steps = Script.steps(setup);
        boolean isFirst = true;
        for (View view : VIEWS) {
            GroupRegistration plain = new GroupRegistration();
            GroupRegistration called = new GroupRegistration();
            for (String step : steps) {
                Script.play(plain, step);
                Script.play(called, step);
            }
            if (isFirst) {
                Script.runStep(name, called, call);
            } else {
                Script.play(called, call);
            }
            isFirst = false;
            compare(name + ": " + call + " changed something, then", view, plain, called);
        }
    }

    private static void compare(String name, View view, GroupRegistration plain, GroupRegistration called) {
        Answers due = new Answers();
        Answers got = new Answers();
        view.look(plain, due);
        view.look(called, got);
        int same = 0;
        while (same < due.list.size() && due.list.get(same).equals(got.list.get(same))) {
            same++;
        }
        boolean alike = same == due.list.size();
        String difference = alike ? "" : got.list.get(same) + " instead of " + due.list.get(same);
        Script.due(name + " " + difference + ": alike", alike ? 1 : 0, 1);
    }

    private static void states(GroupRegistration object, Answers answers) {
        answers.add("time", object.time());
        answers.add("isSettled", object.isSettled());
        for (int bridge = 0; bridge < BRIDGES; bridge++) {
            for (int port = 0; port < PORTS; port++) {
                answers.add("leaveAllTimer", object.leaveAllTimer(bridge, port), bridge, port);
                for (int group = 0; group < GROUPS; group++) {
                    answers.add("registrar", object.registrar(bridge, port, group), bridge, port, group);
                    answers.add("registrarTimer", object.registrarTimer(bridge, port, group), bridge, port, group);
                    answers.add("applicant", object.applicant(bridge, port, group), bridge, port, group);
                }
            }
        }
        for (int host = 0; host < HOSTS; host++) {
            for (int group = 0; group < GROUPS; group++) {
                answers.add("hostApplicant", object.hostApplicant(host, group), host, group);
            }
        }
    }

    private static void deliveries(GroupRegistration object, Answers answers) {
        for (int host = 0; host < HOSTS; host++) {
            for (int group = 0; group < GROUPS; group++) {
                answers.add("receivers", object.receivers(host, group), host, group);
                answers.add("missedCount", object.missedCount(host, group), host, group);
                answers.add("needlessCount", object.needlessCount(host, group), host, group);
            }
            for (int other = 0; other < HOSTS; other++) {
                answers.add("distance", object.distance(host, other), host, other);
            }
        }
    }

    private static void marksAndSilence(GroupRegistration object, Answers answers) {
        for (int bridge = 0; bridge < BRIDGES; bridge++) {
            for (int port = 0; port < PORTS; port++) {
                answers.add("loseNext", object.loseNext(bridge, port), bridge, port);
            }
        }
        for (int host = 0; host < HOSTS; host++) {
            answers.add("setSilent", object.setSilent(host, true), host);
        }
    }

    /** Shows the leave-all time and marks at ports that are connected now, and the numbers that are free. */
    private static void growth(GroupRegistration object, Answers answers) {
        for (int bridge = 0; bridge + 1 < BRIDGES; bridge++) {
            for (int port = 0; port < PORTS; port++) {
                int other = bridge + 1;
                answers.add("connect", object.connect(bridge, port, other, port), bridge, port, other, port);
            }
        }
        for (int bridge = 0; bridge < BRIDGES; bridge++) {
            for (int port = 0; port < PORTS; port++) {
                answers.add("addHost", object.addHost(bridge, port), bridge, port);
                answers.add("leaveAllTimer", object.leaveAllTimer(bridge, port), bridge, port);
            }
        }
        answers.add("setTimes", object.setTimes(1, 1));
        for (int bridge = 0; bridge <= BRIDGES; bridge++) {
            answers.add("addBridge", object.addBridge());
        }
        marksAndSilence(object, answers);
    }

    /** Shows the links, and marks at ports that could not be linked before. */
    private static void cuts(GroupRegistration object, Answers answers) {
        for (int bridge = 0; bridge < BRIDGES; bridge++) {
            for (int port = 0; port < PORTS; port++) {
                answers.add("cut", object.cut(bridge, port), bridge, port);
            }
        }
        answers.add("setTimes", object.setTimes(1, 1));
        for (int port = PORTS - 1; port >= 0; port--) {
            for (int bridge = 0; bridge + 1 < BRIDGES; bridge++) {
                int other = bridge + 1;
                answers.add("connect", object.connect(bridge, port, other, port), bridge, port, other, port);
            }
        }
        marksAndSilence(object, answers);
    }

    private static void statesAfter(GroupRegistration object, Answers answers, int ticks) {
        answers.add("tick", object.tick(ticks), ticks);
        states(object, answers);
    }

    /** Shows the leave time, at every port where a group is registered. */
    private static void statesAfterLeaves(GroupRegistration object, Answers answers) {
        for (int host = 0; host < HOSTS; host++) {
            for (int group = 0; group < GROUPS; group++) {
                answers.add("leave", object.leave(host, group), host, group);
            }
        }
        statesAfter(object, answers, 1);
    }

    private static void statesAfterJoins(GroupRegistration object, Answers answers) {
        for (int host = 0; host < HOSTS; host++) {
            for (int group = 0; group < GROUPS; group++) {
                answers.add("join", object.join(host, group), host, group);
            }
        }
        statesAfter(object, answers, 2);
    }

    /** Shows a mark at a port with a host: what the host does not ignore is a leave-all alone. */
    private static void statesAfterLeaveAlls(GroupRegistration object, Answers answers) {
        answers.add("setTimes", object.setTimes(3, 1));
        statesAfter(object, answers, 1);
    }
}
