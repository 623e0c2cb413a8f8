import java.lang.reflect.InvocationTargetException;
import java.lang.reflect.Method;
import java.util.ArrayList;
import java.util.List;

/**
 * Runs calls that are written as the document writes its examples: "addBridge() = 0; tick(1) = 2".
 * The names of the document's constants may stand for numbers. Every script has a new object.
 */
final class Script {
    /** The document promises nothing about an object after so many calls. */
    private static final int MOST_CALLS = 512;
    private static final Method[] METHODS = GroupRegistration.class.getMethods();
    private static int calls = 0;
    private static int wrong = 0;

    private Script() {
    }

    /** Runs the lines as one script. */
    static void run(String name, String... lines) {
        GroupRegistration object = new GroupRegistration();
        List<String> steps = steps(lines);
        if (steps.size() > MOST_CALLS) {
            throw new IllegalStateException(name + ": more calls than the document allows");
        }
        for (String step : steps) {
            runStep(name, object, step);
        }
    }

    /** The calls of the lines, each with its answer. */
    static List<String> steps(String... lines) {
        List<String> steps = new ArrayList<>();
        for (String line : lines) {
            for (String step : line.split(";")) {
                if (!step.isBlank()) {
                    steps.add(step.trim());
                }
            }
        }
        return steps;
    }

    static void due(String what, long got, long want) {
        calls++;
        if (got != want) {
            wrong++;
            System.out.println(what + " answered " + got + ", due is " + want);
        }
    }

    static int wrongAnswers() {
        return wrong;
    }

    /** Ends the program with exit code 1 if an answer was not the one that was due. */
    static void end() {
        if (calls == 0) {
            wrong++;
            System.out.println("nothing was tested");
        }
        System.out.println(calls + " answers, " + wrong + " of them wrong");
        if (wrong != 0) {
            System.exit(1);
        }
    }

    /** Makes the call of a step and compares its answer. */
    static void runStep(String name, GroupRegistration object, String step) {
        int equals = step.indexOf('=', step.indexOf(')'));
        if (equals < 0) {
            throw new IllegalStateException(name + ": this is no call with an answer: " + step);
        }
        long got = play(object, step);
        due(name + ": " + step.substring(0, equals).trim(), got, number(step.substring(equals + 1)));
    }

    /** Makes the call of a step, whatever answer is due. */
    static int play(GroupRegistration object, String step) {
        int open = step.indexOf('(');
        int close = step.indexOf(')');
        if (open < 0 || close < open) {
            throw new IllegalStateException("this is no call: " + step);
        }
        String inside = step.substring(open + 1, close).trim();
        String[] words = inside.isEmpty() ? new String[0] : inside.split(",");
        return call(object, step.substring(0, open).trim(), words);
    }

    private static int call(GroupRegistration object, String methodName, String[] words) {
        for (Method method : METHODS) {
            if (method.getName().equals(methodName) && method.getParameterCount() == words.length) {
                Object[] arguments = new Object[words.length];
                for (int i = 0; i < words.length; i++) {
                    boolean isFlag = method.getParameterTypes()[i] == boolean.class;
                    arguments[i] = isFlag ? (Object) flag(words[i]) : (Object) number(words[i]);
                }
                return invoke(object, method, arguments);
            }
        }
        throw new IllegalStateException("no such method: " + methodName);
    }

    private static int invoke(GroupRegistration object, Method method, Object[] arguments) {
        try {
            return (Integer) method.invoke(object, arguments);
        } catch (IllegalAccessException | InvocationTargetException e) {
            throw new IllegalStateException("the call of " + method.getName() + " failed", e);
        }
    }

    private static boolean flag(String word) {
        if (!word.trim().equals("true") && !word.trim().equals("false")) {
            throw new IllegalStateException("neither true nor false: " + word);
        }
        return word.trim().equals("true");
    }

    private static int number(String word) {
        String trimmed = word.trim();
        if (!trimmed.isEmpty() && Character.isLetter(trimmed.charAt(0))) {
            try {
                return GroupRegistration.class.getField(trimmed).getInt(null);
            } catch (NoSuchFieldException | IllegalAccessException e) {
                throw new IllegalStateException("no such constant: " + trimmed, e);
            }
        }
        return Integer.parseInt(trimmed);
    }
}
