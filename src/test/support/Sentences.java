import java.io.IOException;
import java.nio.file.Files;
import java.nio.file.Path;
import java.util.ArrayList;
import java.util.Arrays;
import java.util.HashSet;
import java.util.List;
import java.util.Set;

/**
 * The document, looked at sentence by sentence: each is quoted and has a test of its own, and what
 * a section says and no quote takes in is told as a fault. A test extends this class to name its
 * functions plainly.
 */
abstract class Sentences {
    interface Look {
        void at();
    }

    interface Call {
        long answer();
    }

    interface Deed {
        void make();
    }

    static final Class<?> ILLEGAL = IllegalArgumentException.class;
    static final Class<?> STATE = IllegalStateException.class;
    static final Class<?> UNSUPPORTED = UnsupportedOperationException.class;
    static final Class<?> ZERO = ArithmeticException.class;
    static final Class<?> INDEX = IndexOutOfBoundsException.class;

    static final int PUT = 0;
    static final int COPY = 1;
    static final int SUM = 2;
    static final int DIFFERENCE = 3;
    static final int PRODUCT = 4;
    static final int QUOTIENT = 5;
    static final int LESS = 6;
    static final int SAY = 7;

    static final int MIN = Integer.MIN_VALUE;
    static final int MAX = Integer.MAX_VALUE;

    private static final Path DOCUMENT = Path.of("../shared/DOC.md");

    private static final Set<String> headings = new HashSet<>();
    private static String heading = "";
    private static String text = "";
    private static boolean[] quoted = {};
    private static String quote = "";
    private static int sentences = 0;
    private static int made = 0;
    private static int wrong = 0;

    /** The sentences that follow are quoted from the section with this heading. */
    static void section(String newHeading) {
        endSection();
        heading = newHeading;
        headings.add(newHeading);
        text = sectionOf(newHeading);
        quoted = new boolean[text.length()];
    }

    static void sentence(String newQuote, Look look) {
        quote = newQuote;
        sentences++;
        int at = text.indexOf(newQuote);
        if (at < 0) {
            tell("the document does not say this");
        } else {
            Arrays.fill(quoted, at, at + newQuote.length(), true);
        }
        int before = made;
        try {
            look.at();
        } catch (RuntimeException e) {
            tell("a call that is no question threw " + e + " at " + e.getStackTrace()[1]);
        }
        if (made == before) {
            tell("nothing was looked at");
        }
    }

    /** All sections with such headings have been gone through. */
    static void sectionsAre(String pattern) {
        for (String line : documentLines()) {
            boolean wanted = line.startsWith("## ") && line.substring(3).matches(pattern);
            if (wanted && !headings.contains(line.substring(3))) {
                tell("the section was left out: " + line);
            }
        }
    }

    static void end() {
        endSection();
        System.out.println(
                sentences + " sentences, " + made + " answers looked at, " + wrong + " wrong");
        if (wrong != 0) {
            System.exit(1);
        }
    }

    static void due(String what, long want, Call call) {
        made++;
        try {
            long got = call.answer();
            if (got != want) {
                tell(what + " answered " + got + ", due is " + want);
            }
        } catch (RuntimeException e) {
            tell(what + " threw " + e + ", due is " + want);
        }
    }

    static void due(String what, boolean want, boolean got) {
        due(what, want ? 1 : 0, () -> got ? 1 : 0);
    }

    static void dueText(String what, String want, String got) {
        made++;
        if (!got.equals(want)) {
            tell(what + "\n    answered " + got + "\n    due is   " + want);
        }
    }

    static void thrown(String what, Class<?> kind, Deed deed) {
        made++;
        try {
            deed.make();
            tell(what + " threw nothing, due is " + kind);
        } catch (RuntimeException e) {
            if (e.getClass() != kind) {
                tell(what + " threw " + e + ", due is " + kind);
            }
        }
    }

    static void fine(String what, Deed deed) {
        due(what, 0, () -> {
            deed.make();
            return 0;
        });
    }

    /** The form is run, ends well and says these numbers. */
    static void says(String what, OnceNamed x, int form, int... want) {
        due(what + ", run " + form, want.length, () -> x.run(form));
        saidIs(what + ", form " + form, x, want);
    }

    /** The program and both ways of running its form say these numbers. */
    static void allSay(String what, OnceNamed x, int... want) {
        x.build();
        for (int form = 0; form <= 2; form++) {
            says(what, x, form, want);
        }
    }

    /** The form is run, fails, and says these numbers before. */
    static void fails(String what, Class<?> kind, OnceNamed x, int form, int... want) {
        thrown(what + ", run " + form, kind, () -> x.run(form));
        saidIs(what + ", form " + form, x, want);
    }

    static void allFail(String what, Class<?> kind, OnceNamed x, int... want) {
        x.build();
        for (int form = 0; form <= 2; form++) {
            fails(what, kind, x, form, want);
        }
    }

    static void saidIs(String what, OnceNamed x, int... want) {
        for (int i = 0; i < want.length; i++) {
            int at = i;
            due(what + ", said " + i, want[i], () -> x.said(at));
        }
        thrown(what + ", said no more", INDEX, () -> x.said(want.length));
    }

    /** One block, and starts of its variables from 0 on. */
    static OnceNamed oneBlock(int... starts) {
        OnceNamed x = new OnceNamed(1);
        for (int v = 0; v < starts.length; v++) {
            x.start(v, starts[v]);
        }
        return x;
    }

    private static void tell(String fault) {
        wrong++;
        System.out.println(heading + ": \"" + quote + "\": " + fault);
    }

    private static void endSection() {
        quote = "";
        StringBuilder rest = new StringBuilder();
        for (int i = 0; i < quoted.length; i++) {
            rest.append(quoted[i] ? ' ' : text.charAt(i));
        }
        String left = rest.toString().replaceAll("\\s+", " ").trim();
        if (left.matches(".*[A-Za-z0-9].*")) {
            tell("no sentence quotes this: " + left);
        }
        quoted = new boolean[0];
    }

    /** A section without its heading, its marks and what it repeats of the face. */
    private static String sectionOf(String wanted) {
        List<String> found = new ArrayList<>();
        boolean inside = false;
        for (String line : documentLines()) {
            if (line.startsWith("## ")) {
                inside = line.equals("## " + wanted);
            } else if (inside && !line.startsWith("```")) {
                found.add(line);
            }
        }
        return String.join(" ", found).replaceAll("`[^`]*`:?", "").replaceAll("\\s+", " ").trim();
    }

    private static List<String> documentLines() {
        try {
            return Files.readAllLines(DOCUMENT);
        } catch (IOException e) {
            throw new IllegalStateException("the document can't be read", e);
        }
    }
}
