import java.io.IOException;
import java.lang.reflect.Constructor;
import java.lang.reflect.Method;
import java.lang.reflect.Modifier;
import java.nio.file.Files;
import java.nio.file.Path;
import java.util.ArrayList;
import java.util.List;
import java.util.Set;
import java.util.TreeSet;
import java.util.regex.Matcher;
import java.util.regex.Pattern;

/** The class has the document's face, as its headings repeat it, and nothing besides. */
public final class FaceTest {
    private static final Path DOCUMENT = Path.of("../shared/DOC.md");

    private static int wrong = 0;

    public static void main(String[] args) throws IOException {
        Set<String> got = face();
        lookAt("the public face", got, "^    public (.*);$");
        lookAt("the headings of the promises", got, "^`(.*?)`:");
        if (OnceNamed.class.getModifiers() != (Modifier.PUBLIC | Modifier.FINAL)) {
            tell("the class is not public and final");
        }
        System.out.println("the face: " + wrong + " wrong");
        if (wrong != 0) {
            System.exit(1);
        }
    }

    private static void tell(String text) {
        wrong++;
        System.out.println(text);
    }

    private static void lookAt(String where, Set<String> got, String pattern) throws IOException {
        Set<String> due = new TreeSet<>();
        Matcher line = Pattern.compile(pattern, Pattern.MULTILINE)
                .matcher(Files.readString(DOCUMENT));
        while (line.find()) {
            due.add(line.group(1).replaceAll("(int|boolean) [a-z]+([,)])", "$1$2"));
        }
        if (due.size() != 22 || !due.equals(got)) {
            tell("the class has " + got + ", " + where + " " + due);
        }
    }

    private static Set<String> face() {
        Set<String> got = new TreeSet<>();
        for (Constructor<?> c : OnceNamed.class.getConstructors()) {
            got.add("OnceNamed" + ends(c.getParameterTypes(), c.getExceptionTypes()));
        }
        for (Method m : OnceNamed.class.getDeclaredMethods()) {
            if (Modifier.isPublic(m.getModifiers())) {
                got.add(m.getReturnType().getSimpleName() + " " + m.getName()
                        + ends(m.getParameterTypes(), m.getExceptionTypes()));
            }
        }
        return got;
    }

    private static String ends(Class<?>[] parameters, Class<?>[] thrown) {
        String throwing = thrown.length == 0 ? "" : " throws " + joined(thrown);
        return "(" + joined(parameters) + ")" + throwing;
    }

    private static String joined(Class<?>[] types) {
        List<String> names = new ArrayList<>();
        for (Class<?> type : types) {
            names.add(type.getSimpleName());
        }
        return String.join(", ", names);
    }
}
