import java.io.IOException;
import java.lang.reflect.Constructor;
import java.lang.reflect.Field;
import java.lang.reflect.Method;
import java.lang.reflect.Modifier;
import java.nio.file.Files;
import java.nio.file.Path;
import java.util.ArrayList;
import java.util.Arrays;
import java.util.List;
import java.util.Set;
import java.util.TreeSet;

/** The public face of the document: the compiled class by its members, the source by its words. */
public final class FaceTest {
    private static final Path SOURCE = Path.of("src/main/java/GroupRegistration.java");
    private static final Set<String> METHODS = Set.of(
            "addBridge()", "connect(int,int,int,int)", "cut(int,int)", "addHost(int,int)",
            "setTimes(int,int)", "join(int,int)", "leave(int,int)", "setSilent(int,boolean)",
            "loseNext(int,int)", "tick(int)", "time()", "registrar(int,int,int)",
            "registrarTimer(int,int,int)", "applicant(int,int,int)", "hostApplicant(int,int)",
            "leaveAllTimer(int,int)", "isSettled()", "receivers(int,int)", "missedCount(int,int)",
            "needlessCount(int,int)", "distance(int,int)");
    private static final Set<String> CONSTANTS = Set.of(
            "NO_SUCH_PORT = -1", "NO_SUCH_HOST = -2", "NO_SUCH_GROUP = -3", "BAD_VALUE = -4",
            "FULL = -5", "PORT_USED = -6", "NOT_LINKED = -7", "CYCLE = -8", "EMPTY = 0", "IN = 1",
            "LEAVING = 2", "OBSERVER = 0", "ANXIOUS = 1", "QUIET = 2", "LEAVER = 3");

    public static void main(String[] args) throws IOException, IllegalAccessException {
        checkClass();
        checkMethods();
        checkConstants();
        checkClassesInside();
        if (Document.isAtHand()) {
            checkSource(Files.readString(SOURCE));
        }
        Script.end();
    }

    private static void holds(String what, boolean isSo) {
        Script.due(what, isSo ? 1 : 0, 1);
    }

    private static void checkClass() {
        int modifiers = GroupRegistration.class.getModifiers();
        holds("the class is public and final", Modifier.isPublic(modifiers) && Modifier.isFinal(modifiers));
        Constructor<?>[] constructors = GroupRegistration.class.getDeclaredConstructors();
        holds("one public constructor without parameters", constructors.length == 1
                && Modifier.isPublic(constructors[0].getModifiers())
                && constructors[0].getParameterCount() == 0);
    }

    private static void checkMethods() {
        Set<String> open = new TreeSet<>();
        List<String> privateNames = new ArrayList<>();
        Set<String> openNames = new TreeSet<>();
        for (Method method : GroupRegistration.class.getDeclaredMethods()) {
            if (Modifier.isPrivate(method.getModifiers())) {
                privateNames.add(method.getName());
            } else {
                String types = Arrays.toString(Arrays.stream(method.getParameterTypes())
                        .map(Class::getSimpleName).toArray()).replaceAll("[\\[\\] ]", "");
                open.add(method.getName() + "(" + types + ")");
                openNames.add(method.getName());
                holds(method.getName() + " is a public method of an object and answers an int",
                        method.getModifiers() == Modifier.PUBLIC && method.getReturnType() == int.class);
            }
            holds(method.getName() + " takes at most seven parameters", method.getParameterCount() <= 7);
        }
        holds("the methods that are not private are the document's: " + open, open.equals(METHODS));
        for (String name : privateNames) {
            holds("no public method is named as the private " + name, !openNames.contains(name));
        }
    }

    private static void checkConstants() throws IllegalAccessException {
        Set<String> open = new TreeSet<>();
        for (Field field : GroupRegistration.class.getDeclaredFields()) {
            int modifiers = field.getModifiers();
            if (!Modifier.isPrivate(modifiers)) {
                open.add(field.getName() + " = " + field.getInt(null));
                holds(field.getName() + " is public", Modifier.isPublic(modifiers));
            }
            holds(field.getName() + ", if static, is final",
                    !Modifier.isStatic(modifiers) || Modifier.isFinal(modifiers));
        }
        holds("the fields that are not private are the document's: " + open, open.equals(CONSTANTS));
    }

    private static void checkClassesInside() {
        Class<?>[] classes = GroupRegistration.class.getDeclaredClasses();
        holds("at most twelve classes", classes.length < 12);
        for (Class<?> inside : classes) {
            int modifiers = inside.getModifiers();
            holds(inside.getSimpleName() + " is static and not public", Modifier.isStatic(modifiers)
                    && !Modifier.isPublic(modifiers) && !Modifier.isProtected(modifiers));
        }
    }

    /** The document's block word by word, so that the names of the parameters are the document's too. */
    private static void checkSource(String source) {
        int open = 0;
        for (String line : Document.section("The public face")) {
            String declaration = line.trim().replaceFirst("\\);$", ") {");
            if (declaration.startsWith("public ")) {
                open++;
                holds("the source has " + declaration, source.contains("\n" + indentOf(line) + declaration + "\n"));
            }
        }
        long publicInSource = source.lines().filter(line -> line.trim().startsWith("public ")).count();
        Script.due("declarations that are public", publicInSource, open);
    }

    private static String indentOf(String line) {
        return line.substring(0, line.length() - line.stripLeading().length());
    }
}
