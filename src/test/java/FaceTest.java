import java.io.IOException;
import java.lang.reflect.Constructor;
import java.lang.reflect.Field;
import java.lang.reflect.Method;
import java.lang.reflect.Modifier;
import java.nio.file.Files;
import java.nio.file.Path;
import java.util.ArrayList;
import java.util.List;
import java.util.Set;
import java.util.TreeSet;
import java.util.regex.Matcher;
import java.util.regex.Pattern;

/** The class has the document's face and nothing besides, and keeps to rules easily read off. */
public final class FaceTest {
    private static final Path SOURCE = Path.of("src/main/java/OnceNamed.java");
    private static final Path DOCUMENT = Path.of("../shared/DOC.md");

    private static int wrong = 0;

    public static void main(String[] args) throws IOException {
        face();
        noOtherMembers();
        nestedClasses();
        source();
        System.out.println("the face and the language: " + wrong + " wrong");
        if (wrong != 0) {
            System.exit(1);
        }
    }

    private static void tell(String text) {
        wrong++;
        System.out.println(text);
    }

    private static void face() throws IOException {
        Set<String> due = new TreeSet<>();
        Matcher line = Pattern.compile("^    public (.*);$", Pattern.MULTILINE)
                .matcher(Files.readString(DOCUMENT));
        while (line.find()) {
            due.add(line.group(1).replaceAll("(int|boolean) [a-z]+([,)])", "$1$2"));
        }
        Set<String> got = new TreeSet<>();
        for (Constructor<?> c : OnceNamed.class.getConstructors()) {
            got.add("OnceNamed" + ends(c.getParameterTypes(), c.getExceptionTypes()));
        }
        for (Method m : OnceNamed.class.getDeclaredMethods()) {
            if (Modifier.isPublic(m.getModifiers())) {
                got.add(m.getReturnType().getSimpleName() + " " + m.getName()
                        + ends(m.getParameterTypes(), m.getExceptionTypes()));
            }
        }
        if (due.size() != 22 || !due.equals(got)) {
            tell("the face is " + got + ", due is " + due);
        }
        if (OnceNamed.class.getModifiers() != (Modifier.PUBLIC | Modifier.FINAL)) {
            tell("the class is not public and final");
        }
    }

    private static String ends(Class<?>[] parameters, Class<?>[] thrown) {
        String throwing = thrown.length == 0 ? "" : " throws " + joined(thrown);
        return "(" + joined(parameters) + ")" + throwing;
    }

    private static String joined(Class<?>[] types) {
        List<String> names = new ArrayList<>();
        for (Class<?> type : types) {
            names.add(type.getSimpleName());
        }
        return String.join(", ", names);
    }

    private static void noOtherMembers() {
        for (Field f : OnceNamed.class.getDeclaredFields()) {
            if (!Modifier.isPrivate(f.getModifiers())) {
                tell("field " + f.getName() + " is not private");
            }
        }
        Set<String> open = new TreeSet<>();
        Set<String> hidden = new TreeSet<>();
        for (Method m : OnceNamed.class.getDeclaredMethods()) {
            int modifiers = m.getModifiers();
            if (!Modifier.isPublic(modifiers) && !Modifier.isPrivate(modifiers)) {
                tell("method " + m.getName() + " is neither public nor private");
            }
            (Modifier.isPublic(modifiers) ? open : hidden).add(m.getName());
        }
        for (Class<?> c : OnceNamed.class.getDeclaredClasses()) {
            for (Method m : c.getDeclaredMethods()) {
                hidden.add(m.getName());
            }
        }
        hidden.retainAll(open);
        if (!hidden.isEmpty()) {
            tell("names of the face are used again: " + hidden);
        }
    }

    private static void nestedClasses() {
        Class<?>[] nested = OnceNamed.class.getDeclaredClasses();
        if (nested.length > 11) {
            tell("too many classes: " + nested.length);
        }
        for (Class<?> c : nested) {
            int modifiers = c.getModifiers();
            if (!Modifier.isStatic(modifiers) || Modifier.isPublic(modifiers)
                    || Modifier.isProtected(modifiers)) {
                tell(c.getName() + " is not a hidden static class");
            }
            int fields = 0;
            for (Field f : c.getDeclaredFields()) {
                boolean constant = Modifier.isStatic(f.getModifiers());
                fields += constant ? 0 : 1;
                if (constant && !Modifier.isFinal(f.getModifiers())) {
                    tell(c.getName() + " has static state: " + f.getName());
                }
            }
            if (fields > 20) {
                tell(c.getName() + " has " + fields + " fields");
            }
            for (Method m : c.getDeclaredMethods()) {
                if (m.getParameterCount() > 7) {
                    tell(c.getName() + "." + m.getName() + " has too many parameters");
                }
            }
        }
    }

    private static void source() throws IOException {
        String text = Files.readString(SOURCE);
        String[] forbidden = {
            "->", "::", "\\bsynchronized\\b", "\\bassert\\b", "\\bfinally\\b", "\\bpackage\\b",
            "\\bhashCode\\b", "\\bequals\\b", "\\btoString\\b", "Exact\\b", "\\bcatch\\b",
            "\\bRandom\\b", "currentTimeMillis", "nanoTime", "\\bThread\\b", "\\[\\] *\\[\\]"
        };
        String code = text.replaceAll("(?s)/\\*.*?\\*/", "").replaceAll("//.*", "");
        for (String pattern : forbidden) {
            if (Pattern.compile(pattern).matcher(code).find()) {
                tell("the source has " + pattern);
            }
        }
        Matcher imports = Pattern.compile("import (.*);").matcher(code);
        while (imports.find()) {
            if (!imports.group(1).equals("java.util.Arrays")) {
                tell("the source imports " + imports.group(1));
            }
        }
        for (char c : text.toCharArray()) {
            if (c > 255) {
                tell("the source has the character " + (int) c);
                break;
            }
        }
        // What calls make is never freed, so rows are made in constructors alone.
        Matcher making = Pattern.compile("\\bnew +(\\w+)").matcher(code);
        while (making.find()) {
            String line = lineAround(code, making.start()).trim();
            boolean field = line.matches("\\w+ = new .*");
            if (!field && !line.startsWith("throw new ")) {
                tell("an object is made outside a constructor: " + line);
            }
        }
    }

    private static String lineAround(String text, int at) {
        int from = text.lastIndexOf('\n', at) + 1;
        return text.substring(from, text.indexOf('\n', at));
    }
}
