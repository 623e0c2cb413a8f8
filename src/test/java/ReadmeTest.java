import java.io.IOException;
import java.lang.reflect.Field;
import java.lang.reflect.Method;
import java.lang.reflect.Modifier;
import java.net.URI;
import java.net.URL;
import java.net.URLClassLoader;
import java.nio.file.Files;
import java.nio.file.Path;
import java.util.ArrayList;
import java.util.Arrays;
import java.util.HashSet;
import java.util.List;
import java.util.Set;
import java.util.TreeMap;
import java.util.TreeSet;
import java.util.regex.Matcher;
import java.util.regex.Pattern;
import java.util.stream.Collectors;
import java.util.stream.Stream;
import javax.tools.JavaCompiler;
import javax.tools.JavaFileObject;
import javax.tools.SimpleJavaFileObject;
import javax.tools.ToolProvider;

/**
 * README.md: the Java that it shows compiles as it stands there and answers what is written behind
 * each call, and its tables say what the document says.
 */
public final class ReadmeTest {
    private static final Path README = Path.of("README.md");
    private static final Path TESTS = Path.of("src/test/java");
    private static final Path CLASSES = Path.of("build/readme");
    private static final String NEW_OBJECT = "GroupRegistration net = new GroupRegistration();";
    // "int left = net.addBridge(); // 0: words": what stands before the call, the call, the answer.
    private static final Pattern SHOWN_CALL = Pattern.compile(
            "((?:int \\w+ = )?)(net\\.(\\w+)\\([^;]*\\)); +// (-?\\d+|[A-Z_]+)(?:: .*)?");
    private static final Pattern ERROR = Pattern.compile("\\b[A-Z_]{4,}\\b");

    private final List<String> readme;
    private final TreeMap<Integer, String> errors = new TreeMap<>();

    private ReadmeTest() throws IOException, IllegalAccessException {
        readme = Files.readAllLines(README);
        for (Field field : GroupRegistration.class.getFields()) {
            if (field.getInt(null) < 0) {
                errors.put(field.getInt(null), field.getName());
            }
        }
    }

    public static void main(String[] args) throws Exception {
        ReadmeTest test = new ReadmeTest();
        test.shownUse();
        test.negativeAnswers();
        test.methods();
        test.tests();
        Script.end();
    }

    private static void holds(String what, boolean isSo) {
        Script.due("README.md: " + what, isSo ? 1 : 0, 1);
    }

    private static Set<String> methodNames() {
        return Arrays.stream(GroupRegistration.class.getDeclaredMethods())
                .filter(method -> Modifier.isPublic(method.getModifiers()))
                .map(Method::getName).collect(Collectors.toCollection(TreeSet::new));
    }

    private void shownUse() throws ReflectiveOperationException, IOException {
        List<String> shown = shownLines();
        List<String> asking = new ArrayList<>();
        List<String> calls = new ArrayList<>();
        List<Integer> due = new ArrayList<>();
        Set<String> names = new HashSet<>();
        for (String line : shown) {
            Matcher call = SHOWN_CALL.matcher(line);
            if (call.matches()) {
                asking.add(call.group(1) + "answered(" + call.group(2) + ");");
                calls.add(call.group(2));
                names.add(call.group(3));
                due.add(number(call.group(4)));
            } else {
                holds("a line is a call with its answer, or makes the object: " + line, line.equals(NEW_OBJECT));
                asking.add(line);
            }
        }
        holds("each method is shown", names.equals(methodNames()));
        holds("what is shown compiles as it stands", compile("Shown", shown));
        List<Integer> got = compile("Asking", asking) ? run("Asking") : List.of();
        Script.due("README.md: how many calls have answered", got.size(), due.size());
        for (int i = 0; i < Math.min(got.size(), due.size()); i++) {
            Script.due("README.md: " + calls.get(i), got.get(i), due.get(i));
        }
    }

    private List<String> shownLines() {
        List<String> lines = new ArrayList<>();
        boolean isInside = false;
        for (String line : readme) {
            if (line.startsWith("```")) {
                isInside = line.equals("```java");
            } else if (isInside) {
                lines.add(line);
            }
        }
        return lines;
    }

    private static int number(String word) throws ReflectiveOperationException {
        boolean isName = Character.isLetter(word.charAt(0));
        return isName ? GroupRegistration.class.getField(word).getInt(null) : Integer.parseInt(word);
    }

    /** Compiles a class whose main method has these lines. */
    private static boolean compile(String name, List<String> lines) throws IOException {
        String text = "public final class " + name + " {\n"
                + "    public static final java.util.List<Integer> ANSWERS = new java.util.ArrayList<>();\n"
                + "    private static int answered(int answer) {\n        ANSWERS.add(answer);\n        return answer;\n    }\n"
                + "    public static void main(String[] args) {\n" + String.join("\n", lines) + "\n    }\n}\n";
        JavaFileObject source = new SimpleJavaFileObject(URI.create("string:///" + name + ".java"), JavaFileObject.Kind.SOURCE) {
            @Override
            public CharSequence getCharContent(boolean ignoreEncodingErrors) {
                return text;
            }
        };
        Files.createDirectories(CLASSES);
        JavaCompiler compiler = ToolProvider.getSystemJavaCompiler();
        List<String> options = List.of("--release", "17", "-proc:none", "-Xlint:all", "-Werror",
                "-cp", System.getProperty("java.class.path"), "-d", CLASSES.toString());
        return compiler.getTask(null, null, null, options, null, List.of(source)).call();
    }

    private static List<Integer> run(String name) throws ReflectiveOperationException, IOException {
        try (URLClassLoader loader = new URLClassLoader(new URL[] {CLASSES.toUri().toURL()})) {
            Class<?> program = loader.loadClass(name);
            program.getMethod("main", String[].class).invoke(null, (Object) new String[0]);
            List<Integer> answers = new ArrayList<>();
            for (Object answer : (List<?>) program.getField("ANSWERS").get(null)) {
                answers.add((Integer) answer);
            }
            return answers;
        }
    }

    private void negativeAnswers() {
        List<String> rows = table("| negative answer |");
        Script.due("README.md: the negative answers", rows.size(), errors.size());
        for (int value : errors.descendingKeySet()) {
            String start = "| `" + errors.get(value) + "` | " + value + " | ";
            String row = rows.stream().filter(line -> line.startsWith(start)).findFirst().orElse("");
            holds(errors.get(value) + " with its value", !row.isEmpty());
            if (Document.isAtHand() && !row.isEmpty()) {
                String meaning = row.substring(start.length(), row.length() - " |".length());
                holds(errors.get(value) + " means what the document says", Document.section("Description")
                        .contains("- `" + errors.get(value) + " = " + value + "`: " + meaning));
            }
        }
    }

    /** Each promise's head, "int cut(int bridge, int port)", has a row with the promise's errors. */
    private void methods() {
        List<String> rows = table("| call |");
        Script.due("README.md: the methods", rows.size(), methodNames().size());
        for (int promise = 2; Document.isAtHand() && promise <= rows.size() + 1; promise++) {
            List<String> text = Document.section("Promise " + promise);
            String head = text.stream().filter(line -> line.startsWith("`int ")).findFirst().orElse("");
            String call = head.replaceFirst("int ", "").replaceAll("(int|boolean) ", "");
            String row = rows.stream().filter(line -> line.startsWith("| " + call + " | ")).findFirst().orElse("");
            holds("a row for " + call, !head.isEmpty() && !row.isEmpty());
            String returns = text.stream().filter(line -> line.startsWith("Returns ")).collect(Collectors.joining(" "));
            holds("the errors of " + call, errorsIn(row).equals(errorsIn(returns)));
            holds("none where there are none, for " + call, row.endsWith("| none |") == errorsIn(row).isEmpty());
        }
    }

    private List<String> errorsIn(String text) {
        List<String> found = new ArrayList<>();
        Matcher word = ERROR.matcher(text);
        while (word.find()) {
            if (errors.containsValue(word.group())) {
                found.add(word.group());
            }
        }
        return found;
    }

    private void tests() throws IOException {
        Set<String> listed = table("| test |").stream()
                .map(row -> row.substring("| `".length(), row.indexOf("` |"))).collect(Collectors.toCollection(TreeSet::new));
        try (Stream<Path> files = Files.list(TESTS)) {
            Set<String> there = files.map(file -> file.getFileName().toString())
                    .filter(name -> name.endsWith("Test.java"))
                    .map(name -> name.substring(0, name.length() - ".java".length()))
                    .collect(Collectors.toCollection(TreeSet::new));
            holds("it lists the tests that are there: " + there, listed.equals(there));
        }
    }

    /** The rows of the table whose head begins so. */
    private List<String> table(String head) {
        List<String> rows = new ArrayList<>();
        boolean isInside = false;
        for (String line : readme) {
            isInside = line.startsWith(head) || isInside && line.startsWith("|");
            if (isInside && !line.startsWith(head) && !line.startsWith("| ---")) {
                rows.add(line);
            }
        }
        return rows;
    }
}
