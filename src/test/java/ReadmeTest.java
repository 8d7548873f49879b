import java.io.IOException;
import java.lang.reflect.InvocationTargetException;
import java.lang.reflect.Method;
import java.lang.reflect.Modifier;
import java.nio.file.Files;
import java.nio.file.Path;
import java.util.ArrayList;
import java.util.HashMap;
import java.util.List;
import java.util.Map;
import java.util.Set;
import java.util.TreeSet;
import java.util.regex.Matcher;
import java.util.regex.Pattern;
import java.util.stream.Stream;

/**
 * What README.md shows is so: its calls answer as its comments say, its commands work, and it
 * names what there is. A line of Java that can't be read here is told as a fault, so that none is
 * shown untested.
 */
public final class ReadmeTest {
    private static final Path README = Path.of("README.md");
    private static final Path DOCUMENT = Path.of("../shared/DOC.md");
    private static final Path TESTS = Path.of("src/test/java");
    private static final Path ALL_TESTS = Path.of(".ci/run");
    private static final int MOST_CALLS = 512;

    private static final Pattern MAKING =
            Pattern.compile("OnceNamed (\\w+) = new OnceNamed\\((-?\\d+)\\);( *//.*)?");
    private static final Pattern CALL =
            Pattern.compile("(\\w+)\\.(\\w+)\\(([-\\d, ]*)\\);(?: *// (.*))?");
    private static final Pattern ANSWER =
            Pattern.compile("(-?\\d+|true|false|throws [A-Za-z]+)(:.*)?");

    private static final Map<String, OnceNamed> objects = new HashMap<>();
    private static final Map<String, Integer> callsOf = new HashMap<>();
    private static final Set<String> answered = new TreeSet<>();
    private static final Set<String> thrown = new TreeSet<>();
    private static int made = 0;
    private static int wrong = 0;

    public static void main(String[] args) throws Exception {
        List<String> lines = Files.readAllLines(README);
        for (String line : javaLines(lines)) {
            look(line);
        }
        allIsShown();
        limitIsKept();
        commands(lines);
        kindsAreTheDocuments(lines);
        testsAreNamed(String.join("\n", lines));
        classesAreNamed(lines);
        System.out.println(made + " calls of README.md made, " + wrong + " wrong");
        if (wrong != 0) {
            System.exit(1);
        }
    }

    private static void tell(String fault) {
        wrong++;
        System.out.println("README.md: " + fault);
    }

    private static List<String> javaLines(List<String> lines) {
        List<String> found = new ArrayList<>();
        boolean inside = false;
        for (String line : lines) {
            if (line.startsWith("```")) {
                inside = line.equals("```java");
            } else if (inside && !line.isBlank()) {
                found.add(line);
            }
        }
        return found;
    }

    private static void look(String line) {
        Matcher making = MAKING.matcher(line);
        Matcher call = CALL.matcher(line);
        if (making.matches()) {
            OnceNamed object = new OnceNamed(Integer.parseInt(making.group(2)));
            if (objects.put(making.group(1), object) != null) {
                tell("made twice: " + line);
            }
        } else if (call.matches()) {
            lookAtCall(line, call);
        } else {
            tell("this can't be read: " + line);
        }
    }

    private static void lookAtCall(String line, Matcher call) {
        OnceNamed object = objects.get(call.group(1));
        Object[] numbers = numbersIn(call.group(3));
        Method method = methodOf(call.group(2), numbers.length);
        if (object == null || method == null) {
            tell("there is no such object or call: " + line);
            return;
        }
        made++;
        callsOf.merge(call.group(1), 1, Integer::sum);
        String due = dueAnswer(call.group(4), method);
        String got = answerOf(object, method, numbers);
        if (!got.equals(due)) {
            tell("the answer is " + got + ": " + line);
        } else if (got.startsWith("throws ")) {
            thrown.add(got.substring("throws ".length()));
        } else {
            answered.add(method.getName());
        }
    }

    private static Object[] numbersIn(String list) {
        if (list.isBlank()) {
            return new Object[0];
        }
        String[] parts = list.split(", ");
        Object[] numbers = new Object[parts.length];
        for (int i = 0; i < parts.length; i++) {
            numbers[i] = Integer.parseInt(parts[i]);
        }
        return numbers;
    }

    private static Method methodOf(String name, int parameters) {
        for (Method method : OnceNamed.class.getDeclaredMethods()) {
            if (Modifier.isPublic(method.getModifiers()) && method.getName().equals(name)
                    && method.getParameterCount() == parameters) {
                return method;
            }
        }
        return null;
    }

    /** A comment that tells no answer is a remark, which only a call without an answer may have. */
    private static String dueAnswer(String comment, Method method) {
        Matcher answer = ANSWER.matcher(comment == null ? "" : comment);
        if (answer.matches()) {
            return answer.group(1);
        }
        return method.getReturnType() == void.class ? "nothing" : "not told";
    }

    private static String answerOf(OnceNamed object, Method method, Object[] numbers) {
        try {
            Object answer = method.invoke(object, numbers);
            return method.getReturnType() == void.class ? "nothing" : String.valueOf(answer);
        } catch (InvocationTargetException e) {
            return "throws " + e.getCause().getClass().getSimpleName();
        } catch (IllegalAccessException e) {
            throw new IllegalStateException("a public method is closed", e);
        }
    }

    /** Each method answers somewhere, and each kind of exception of the face comes up. */
    private static void allIsShown() {
        for (Method method : OnceNamed.class.getDeclaredMethods()) {
            if (!Modifier.isPublic(method.getModifiers())) {
                continue;
            }
            if (!answered.contains(method.getName())) {
                tell("no answer of " + method.getName() + " is shown");
            }
            for (Class<?> kind : method.getExceptionTypes()) {
                if (!thrown.contains(kind.getSimpleName())) {
                    tell("no call is shown that throws " + kind.getSimpleName());
                }
            }
        }
    }

    private static void limitIsKept() {
        for (String name : callsOf.keySet()) {
            if (callsOf.get(name) > MOST_CALLS) {
                tell(name + " is used for more than " + MOST_CALLS + " calls");
            }
        }
    }

    /** Commands stand indented by four. The one that runs all tests has started this one. */
    private static void commands(List<String> lines) throws IOException, InterruptedException {
        boolean allTests = false;
        for (String line : lines) {
            if (!line.startsWith("    ")) {
                continue;
            }
            String command = line.trim();
            if (command.equals(ALL_TESTS.toString())) {
                allTests = true;
            } else if (!command.startsWith("javac ") || exitCode(command) != 0) {
                tell("this command does not work: " + command);
            }
        }
        if (!allTests || !Files.isExecutable(ALL_TESTS)) {
            tell("the command that runs all tests is not shown or can't be run");
        }
    }

    private static int exitCode(String command) throws IOException, InterruptedException {
        return new ProcessBuilder(command.split(" +")).inheritIO().start().waitFor();
    }

    private static void kindsAreTheDocuments(List<String> lines) throws IOException {
        String document = Files.readString(DOCUMENT);
        int kinds = 0;
        for (String line : lines) {
            Matcher row = Pattern.compile("\\| (\\d) +\\| ([A-Z]+) .*").matcher(line);
            if (!row.matches()) {
                continue;
            }
            if (Integer.parseInt(row.group(1)) != kinds
                    || !document.contains(" " + row.group(1) + " " + row.group(2))) {
                tell("the document has no such kind: " + line);
            }
            kinds++;
        }
        if (kinds != 8) {
            tell(kinds + " kinds are shown");
        }
    }

    private static void classesAreNamed(List<String> lines) {
        Set<String> named = new TreeSet<>();
        for (String line : lines) {
            Matcher name = Pattern.compile("`([A-Z][a-z]\\w+)`").matcher(line);
            while (name.find()) {
                named.add(name.group(1));
            }
        }
        for (Class<?> nested : OnceNamed.class.getDeclaredClasses()) {
            if (!named.contains(nested.getSimpleName())) {
                tell("the class inside is not named: " + nested.getSimpleName());
            }
        }
    }

    private static void testsAreNamed(String text) throws IOException {
        Set<String> named = new TreeSet<>();
        Matcher name = Pattern.compile("`(\\w+Test)`").matcher(text);
        while (name.find()) {
            named.add(name.group(1) + ".java");
        }
        Set<String> there = new TreeSet<>();
        try (Stream<Path> files = Files.list(TESTS)) {
            files.forEach(file -> there.add(file.getFileName().toString()));
        }
        if (!named.equals(there)) {
            tell("the tests are " + there + ", named are " + named);
        }
    }
}
