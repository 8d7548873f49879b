import java.io.DataInputStream;
import java.io.IOException;
import java.io.InputStream;
import java.lang.reflect.Constructor;
import java.lang.reflect.Field;
import java.lang.reflect.Method;
import java.lang.reflect.Modifier;
import java.nio.file.Files;
import java.nio.file.Path;
import java.util.ArrayList;
import java.util.Arrays;
import java.util.List;
import java.util.Map;
import java.util.Set;
import java.util.TreeMap;
import java.util.TreeSet;
import java.util.regex.Matcher;
import java.util.regex.Pattern;

/**
 * The class keeps to LANGUAGE.md, rule by rule, as far as it can be read off the source and the
 * compiled classes. It is stricter than the rules where the class needs less than they leave.
 */
public final class LanguageTest {
    private static final Path SOURCE = Path.of("src/main/java/OnceNamed.java");

    private static final Set<String> EXCEPTIONS = Set.of(
            "IllegalStateException", "IllegalArgumentException", "IndexOutOfBoundsException",
            "ArithmeticException", "UnsupportedOperationException", "NoSuchElementException",
            "RuntimeException");

    private static final Set<String> LIBRARY = Set.of(
            "java/lang/Object.<init>", "java/lang/System.arraycopy", "java/util/Arrays.fill",
            "java/util/Arrays.copyOf", "java/util/Arrays.copyOfRange", "java/lang/Math.max",
            "java/lang/Math.min", "java/lang/Math.abs", "java/lang/Integer.bitCount");

    private static final int MOST_LINES = 60;
    private static final int MOST_DEPTH = 8;
    private static final int MOST_PARAMETERS = 7;
    private static final int MOST_CLASSES = 12;
    private static final int MOST_FIELDS = 20;

    /** A method or constructor, and what stands between its braces. */
    private record Body(String name, boolean constructor, String code) { }

    private static String text = "";
    private static String code = "";
    private static int wrong = 0;

    public static void main(String[] args) throws IOException {
        text = Files.readString(SOURCE);
        code = withoutComments(text);
        List<Body> bodies = bodies();
        rule1();
        rule2();
        rule3();
        rulesOfLibrary();
        rule5();
        rule6(bodies);
        rule8(bodies);
        rule9();
        rule10();
        rule11(bodies);
        rule12(bodies);
        System.out.println(bodies.size() + " methods and constructors held against the language, "
                + wrong + " wrong");
        if (wrong != 0) {
            System.exit(1);
        }
    }

    private static void tell(int rule, String fault) {
        wrong++;
        System.out.println("rule " + rule + ": " + fault);
    }

    private static List<Class<?>> classes() {
        List<Class<?>> all = new ArrayList<>();
        all.add(OnceNamed.class);
        all.addAll(Arrays.asList(OnceNamed.class.getDeclaredClasses()));
        return all;
    }

    /** Comments become empty, so that lines keep their numbers. */
    private static String withoutComments(String source) {
        Matcher comment = Pattern.compile("(?s)/\\*.*?\\*/|//[^\\n]*").matcher(source);
        return comment.replaceAll(found -> found.group().replaceAll("[^\\n]", ""));
    }

    private static void forbid(int rule, String... patterns) {
        for (String pattern : patterns) {
            Matcher found = Pattern.compile(pattern).matcher(code);
            if (found.find()) {
                tell(rule, "line " + lineOf(found.start()) + " has " + found.group());
            }
        }
    }

    private static int lineOf(int at) {
        return (int) code.substring(0, at).chars().filter(c -> c == '\n').count() + 1;
    }

    private static void rule1() {
        forbid(1, "\\bpackage\\b", "\\bprotected\\b");
        for (Field f : OnceNamed.class.getDeclaredFields()) {
            if (!Modifier.isPrivate(f.getModifiers())) {
                tell(1, "field " + f.getName() + " is not private");
            }
        }
        Set<String> open = new TreeSet<>();
        Set<String> hidden = new TreeSet<>();
        for (Method m : OnceNamed.class.getDeclaredMethods()) {
            int modifiers = m.getModifiers();
            if (!Modifier.isPublic(modifiers) && !Modifier.isPrivate(modifiers)) {
                tell(1, "method " + m.getName() + " is neither public nor private");
            }
            (Modifier.isPublic(modifiers) ? open : hidden).add(m.getName());
        }
        for (Class<?> c : OnceNamed.class.getDeclaredClasses()) {
            int modifiers = c.getModifiers();
            if (!Modifier.isStatic(modifiers) || Modifier.isPublic(modifiers)) {
                tell(1, c.getName() + " is not a hidden static class");
            }
            for (Method m : c.getDeclaredMethods()) {
                hidden.add(m.getName());
            }
        }
        hidden.retainAll(open);
        if (!hidden.isEmpty()) {
            tell(1, "names of the face are used again: " + hidden);
        }
    }

    private static void rule2() {
        forbid(2, "->", "::");
        for (Class<?> c : classes()) {
            if (c.getResource(c.getName() + "$1.class") != null) {
                tell(2, c.getName() + " has a class without a name");
            }
        }
    }

    private static void rule3() {
        for (Class<?> c : classes()) {
            for (Field f : c.getDeclaredFields()) {
                lookAtType(c, f.getType());
            }
            for (Method m : c.getDeclaredMethods()) {
                lookAtType(c, m.getReturnType());
                for (Class<?> parameter : m.getParameterTypes()) {
                    lookAtType(c, parameter);
                }
            }
        }
        forbid(3, "\\bdouble\\b", "\\bfloat\\b", "\\[\\] *\\[\\]");
        for (int i = 0; i < text.length(); i++) {
            if (text.charAt(i) > 255) {
                tell(3, "the source has the character " + (int) text.charAt(i));
            }
        }
    }

    private static void lookAtType(Class<?> where, Class<?> type) {
        Class<?> plain = type.isArray() ? type.getComponentType() : type;
        if (!plain.isPrimitive() && !classes().contains(plain)) {
            tell(3, where.getName() + " uses the type " + type.getName());
        }
    }

    /** Rules 4 and 13: what the compiled classes call outside themselves is in the library. */
    private static void rulesOfLibrary() throws IOException {
        for (Class<?> c : classes()) {
            for (String called : calledBy(c)) {
                String owner = called.substring(0, called.indexOf('.'));
                boolean own = owner.equals("OnceNamed") || owner.startsWith("OnceNamed$");
                String simple = owner.substring(owner.lastIndexOf('/') + 1);
                boolean exception = EXCEPTIONS.contains(simple) && called.endsWith(".<init>");
                boolean ofArray = owner.startsWith("[") && called.endsWith(".clone");
                if (!own && !exception && !ofArray && !LIBRARY.contains(called)) {
                    tell(4, c.getName() + " calls " + called);
                }
            }
        }
    }

    /** The methods and the fields that a class file names, as Java's class format lists them. */
    private static List<String> calledBy(Class<?> c) throws IOException {
        try (InputStream file = c.getResourceAsStream("/" + c.getName() + ".class");
                DataInputStream in = new DataInputStream(file)) {
            in.readInt();
            in.readInt();
            int count = in.readUnsignedShort();
            String[] texts = new String[count];
            int[] first = new int[count];
            int[] second = new int[count];
            List<Integer> members = new ArrayList<>();
            for (int i = 1; i < count; i++) {
                int tag = in.readUnsignedByte();
                switch (tag) {
                    case 1 -> texts[i] = in.readUTF();
                    case 7, 8, 16, 19, 20 -> first[i] = in.readUnsignedShort();
                    case 9, 10, 11, 12 -> {
                        first[i] = in.readUnsignedShort();
                        second[i] = in.readUnsignedShort();
                        if (tag != 12) {
                            members.add(i);
                        }
                    }
                    case 3, 4 -> in.readInt();
                    case 5, 6 -> {
                        in.readLong();
                        i++;
                    }
                    default -> throw new IllegalStateException(
                            c.getName() + " makes calls at run time, tag " + tag);
                }
            }
            List<String> called = new ArrayList<>();
            for (int i : members) {
                called.add(texts[first[first[i]]] + "." + texts[first[second[i]]]);
            }
            return called;
        }
    }

    private static void rule5() {
        for (Class<?> c : classes()) {
            for (Field f : c.getDeclaredFields()) {
                boolean constant = Modifier.isStatic(f.getModifiers());
                if (constant && (!Modifier.isFinal(f.getModifiers()) || f.getType() != int.class)) {
                    tell(5, c.getName() + "." + f.getName() + " is no constant number");
                }
            }
        }
        forbid(5, "\\bstatic *\\{");
    }

    private static void rule6(List<Body> bodies) {
        forbid(6, "\\btry\\b", "\\bcatch\\b", "\\bfinally\\b", "\\bsynchronized\\b",
                "\\bassert\\b", "\\binstanceof\\b", "\\bequals\\b", "\\bhashCode\\b",
                "\\btoString\\b", "\\bextends\\b");
        Matcher thrown = Pattern.compile("\\bthrow\\b([^;]*);").matcher(code);
        Pattern making = Pattern.compile(" new (\\w+)\\((\"[^\"]*\")?\\)");
        while (thrown.find()) {
            Matcher made = making.matcher(thrown.group(1));
            if (!made.matches() || !EXCEPTIONS.contains(made.group(1))) {
                tell(6, "line " + lineOf(thrown.start()) + " throws" + thrown.group(1));
            }
        }
        for (Body body : bodies) {
            if (body.constructor && body.code.contains("throw")) {
                tell(6, "the constructor " + body.name + " throws");
            }
        }
    }

    /** Methods of one name count as one here: what they call together is looked at. */
    private static void rule8(List<Body> bodies) {
        Map<String, Set<String>> calls = new TreeMap<>();
        for (Body body : bodies) {
            Set<String> called = calls.computeIfAbsent(body.name, name -> new TreeSet<>());
            Matcher call = Pattern.compile("(new )?\\b(\\w+)\\(").matcher(body.code);
            while (call.find()) {
                called.add(call.group(2));
            }
        }
        for (String name : calls.keySet()) {
            lookAtDepth(calls, name, new ArrayList<>());
        }
    }

    private static void lookAtDepth(
            Map<String, Set<String>> calls, String name, List<String> above) {
        if (above.contains(name)) {
            tell(8, "a recursion: " + above + " " + name);
            return;
        }
        above.add(name);
        if (above.size() > MOST_DEPTH) {
            tell(11, "calls go too deep: " + above);
        } else {
            for (String called : calls.get(name)) {
                if (calls.containsKey(called)) {
                    lookAtDepth(calls, called, above);
                }
            }
        }
        above.remove(above.size() - 1);
    }

    private static void rule9() {
        forbid(9, "\\bwhile\\b", "\\bdo\\b");
        Matcher loop = Pattern.compile("\\bfor \\((.*)\\) \\{").matcher(code);
        Pattern counted = Pattern.compile(
                "int (\\w+) = [^;]+; \\1 (<|<=|>|>=) [^;]+; \\1(\\+\\+|--)");
        int loops = 0;
        while (loop.find()) {
            loops++;
            if (!counted.matcher(loop.group(1)).matches()) {
                tell(9, "line " + lineOf(loop.start()) + " has no counter: " + loop.group());
            }
        }
        Matcher any = Pattern.compile("\\bfor\\b").matcher(code);
        int all = 0;
        while (any.find()) {
            all++;
        }
        if (loops == 0 || loops != all) {
            tell(9, "of " + all + " loops " + loops + " could be read");
        }
    }

    private static void rule10() {
        forbid(10, "\" *\\+", "\\+ *\"");
    }

    private static void rule11(List<Body> bodies) {
        if (classes().size() > MOST_CLASSES) {
            tell(11, "there are " + classes().size() + " classes");
        }
        for (Class<?> c : classes()) {
            int fields = 0;
            for (Field f : c.getDeclaredFields()) {
                fields += Modifier.isStatic(f.getModifiers()) ? 0 : 1;
            }
            if (fields > MOST_FIELDS) {
                tell(11, c.getName() + " has " + fields + " fields");
            }
            for (Method m : c.getDeclaredMethods()) {
                lookAtParameters(m.getName(), m.getParameterCount());
            }
            for (Constructor<?> made : c.getDeclaredConstructors()) {
                lookAtParameters(made.getName(), made.getParameterCount());
            }
        }
        for (Body body : bodies) {
            long lines = body.code.lines().count();
            if (lines > MOST_LINES) {
                tell(11, body.name + " has " + lines + " lines");
            }
        }
    }

    private static void lookAtParameters(String name, int count) {
        if (count > MOST_PARAMETERS) {
            tell(11, name + " takes " + count + " parameters");
        }
    }

    /** What calls make is never freed, so objects and rows are made in constructors alone. */
    private static void rule12(List<Body> bodies) {
        for (Body body : bodies) {
            Matcher making = Pattern.compile("(throw )?\\bnew (\\w+)").matcher(body.code);
            while (making.find()) {
                if (!body.constructor && making.group(1) == null) {
                    tell(12, body.name + " makes an object: " + making.group());
                }
            }
        }
        forbid(12, "\\.clone\\(", "Arrays\\.copyOf");
    }

    /** A head stands at the beginning of its line and may go on in the next ones up to a brace. */
    private static List<Body> bodies() {
        List<Body> found = new ArrayList<>();
        Pattern head = Pattern.compile("(?m)^ {4}(?: {4})?((?:(?:public|private|static|final) )*)"
                + "((?:int|boolean|void|[A-Z]\\w*)(?:\\[\\])? )?(\\w+)\\([^()]*\\)"
                + "(?:\\s+throws [\\w,\\s]+)? \\{");
        Matcher at = head.matcher(code);
        while (at.find()) {
            int end = closing(at.end());
            boolean constructor = at.group(2) == null;
            found.add(new Body(at.group(3), constructor, code.substring(at.end(), end)));
        }
        lookAtCount(found);
        return found;
    }

    private static int closing(int from) {
        int open = 1;
        for (int i = from; i < code.length(); i++) {
            open += code.charAt(i) == '{' ? 1 : code.charAt(i) == '}' ? -1 : 0;
            if (open == 0) {
                return i;
            }
        }
        return code.length();
    }

    /** A method that was not found in the source would not be looked at. */
    private static void lookAtCount(List<Body> found) {
        int due = 0;
        for (Class<?> c : classes()) {
            due += c.getDeclaredMethods().length + c.getDeclaredConstructors().length;
        }
        if (found.size() != due) {
            tell(11, found.size() + " methods are read in the source, there are " + due);
        }
    }
}
