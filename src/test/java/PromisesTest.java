/** Each promise of the document with its ordinary inputs, its edges and wrong inputs, by hand. */
public final class PromisesTest {
    private interface Call {
        long answer();
    }

    private interface Deed {
        void make();
    }

    private static final Class<?> ILLEGAL = IllegalArgumentException.class;
    private static final Class<?> STATE = IllegalStateException.class;
    private static final Class<?> UNSUPPORTED = UnsupportedOperationException.class;
    private static final Class<?> ZERO = ArithmeticException.class;
    private static final Class<?> INDEX = IndexOutOfBoundsException.class;

    private static final int PUT = 0;
    private static final int COPY = 1;
    private static final int SUM = 2;
    private static final int DIFFERENCE = 3;
    private static final int PRODUCT = 4;
    private static final int QUOTIENT = 5;
    private static final int LESS = 6;
    private static final int SAY = 7;

    private static final int MIN = Integer.MIN_VALUE;
    private static final int MAX = Integer.MAX_VALUE;

    private static int wrong = 0;
    private static int made = 0;

    public static void main(String[] args) {
        newObject();
        step();
        stepWrong();
        ends();
        endsWrong();
        start();
        formIsTakenAway();
        formStaysWhenThrown();
        build();
        buildOrder();
        buildMostNames();
        dominators();
        dominatorsOfLoops();
        dominatorsAreOfTheProgramAsItIs();
        meetingsAndSources();
        meetingsAtTheEntry();
        meetingsOfMeetings();
        setsAndUses();
        setsAndUsesWrong();
        alter();
        turn();
        validSteps();
        validEndsAndMeetings();
        propagate();
        propagateAfterAlter();
        propagateNotValid();
        copies();
        copiesWrong();
        runKinds();
        runLimits();
        runZero();
        runNamed();
        runAlteredForm();
        runSwap();
        said();
        same();
        sameFails();
        exampleOfTheReadme();
        System.out.println(made + " answers looked at, " + wrong + " wrong");
        if (wrong != 0) {
            System.exit(1);
        }
    }

    private static void due(String what, long want, Call call) {
        made++;
        try {
            long got = call.answer();
            if (got != want) {
                tell(what + " answered " + got + ", due is " + want);
            }
        } catch (RuntimeException e) {
            tell(what + " threw " + e + ", due is " + want);
        }
    }

    private static void thrown(String what, Class<?> kind, Deed deed) {
        made++;
        try {
            deed.make();
            tell(what + " threw nothing, due is " + kind);
        } catch (RuntimeException e) {
            if (e.getClass() != kind) {
                tell(what + " threw " + e + ", due is " + kind);
            }
        }
    }

    private static void tell(String text) {
        wrong++;
        System.out.println(text);
    }

    private static long bit(boolean b) {
        return b ? 1 : 0;
    }

    /**
     * 0 forks by variable 0 to 1 and 2, which set variable 1 and go to 3, which says it;
     * 4 is not reached.
     */
    private static OnceNamed diamond() {
        OnceNamed x = new OnceNamed(5);
        x.step(0, PUT, 0, 1, 0);
        x.fork(0, 0, 1, 2);
        x.step(1, PUT, 1, 5, 0);
        x.go(1, 3);
        x.step(2, PUT, 1, 6, 0);
        x.go(2, 3);
        x.step(3, SAY, 0, 1, 0);
        x.step(4, COPY, 2, 1, 0);
        x.step(4, SAY, 0, 2, 0);
        x.fork(4, 1, 3, 4);
        return x;
    }

    /** 1 is come to again and again from 2, in which variables 0 and 1 are swapped by way of 2. */
    private static OnceNamed swapping(int rounds) {
        OnceNamed x = new OnceNamed(4);
        x.start(0, 7);
        x.start(1, 8);
        x.start(3, rounds);
        x.step(0, PUT, 4, 1, 0);
        x.go(0, 1);
        x.step(1, SAY, 0, 0, 0);
        x.step(1, SAY, 0, 1, 0);
        x.fork(1, 3, 2, 3);
        x.step(2, COPY, 2, 0, 0);
        x.step(2, COPY, 0, 1, 0);
        x.step(2, COPY, 1, 2, 0);
        x.step(2, DIFFERENCE, 3, 3, 4);
        x.go(2, 1);
        return x;
    }

    private static OnceNamed straight(int... starts) {
        OnceNamed x = new OnceNamed(1);
        for (int v = 0; v < starts.length; v++) {
            x.start(v, starts[v]);
        }
        return x;
    }

    // Promise 1

    private static void newObject() {
        int[] asked = {MIN, -1, 0, 1, 2, 11, 12, 13, MAX};
        int[] blocks = {1, 1, 1, 1, 2, 11, 12, 12, 12};
        for (int i = 0; i < asked.length; i++) {
            int n = blocks[i];
            OnceNamed x = new OnceNamed(asked[i]);
            due("parent of 0 in new " + asked[i], n, () -> x.parent(0));
            due("parent of the last in new " + asked[i], n == 1 ? n : -1, () -> x.parent(n - 1));
            thrown("parent beyond the last in new " + asked[i], ILLEGAL, () -> x.parent(n));
        }
        OnceNamed x = new OnceNamed(2);
        thrown("said of a new object", INDEX, () -> x.said(0));
        thrown("valid of a new object", UNSUPPORTED, () -> x.valid());
        due("run of a new object", 0, () -> x.run(0));
        due("names of a new object", 6, () -> x.build());
        due("first step of a new object", 1, () -> x.step(1, SAY, 0, 0, 0));
        OnceNamed y = new OnceNamed(1);
        y.step(0, SAY, 0, 5, 0);
        due("run", 1, () -> y.run(0));
        due("a start at first", 0, () -> y.said(0));
    }

    // Promise 2

    private static void step() {
        OnceNamed x = new OnceNamed(2);
        due("step 1", 1, () -> x.step(0, PUT, 5, 999, MIN));
        due("step 2", 2, () -> x.step(0, PUT, 0, -999, 6));
        due("step 3", 3, () -> x.step(0, COPY, 5, 5, -1));
        due("step 4", 4, () -> x.step(0, SAY, MAX, 5, MAX));
        due("step 5", 5, () -> x.step(0, LESS, 0, 0, 0));
        due("step 6", 6, () -> x.step(0, SUM, 1, 2, 3));
        thrown("step 7", STATE, () -> x.step(0, SUM, 1, 2, 3));
        thrown("step 7, wrong kind", ILLEGAL, () -> x.step(0, 8, 1, 2, 3));
        thrown("step 7, wrong variable", ILLEGAL, () -> x.step(0, SUM, 1, 2, 6));
        due("step of another block", 1, () -> x.step(1, SAY, -1, 0, -1));
        due("run", 1, () -> x.run(0));
        due("copied from itself", 999, () -> x.said(0));
    }

    private static void stepWrong() {
        OnceNamed x = new OnceNamed(2);
        thrown("block -1", ILLEGAL, () -> x.step(-1, PUT, 0, 0, 0));
        thrown("block n", ILLEGAL, () -> x.step(2, PUT, 0, 0, 0));
        thrown("kind -1", ILLEGAL, () -> x.step(0, -1, 0, 0, 0));
        thrown("kind 8", ILLEGAL, () -> x.step(0, 8, 0, 0, 0));
        thrown("put 1000", ILLEGAL, () -> x.step(0, PUT, 0, 1000, 0));
        thrown("put -1000", ILLEGAL, () -> x.step(0, PUT, 0, -1000, 0));
        for (int kind = PUT; kind <= SAY; kind++) {
            int k = kind;
            if (k != SAY) {
                thrown("v -1 in kind " + k, ILLEGAL, () -> x.step(0, k, -1, 0, 0));
                thrown("v 6 in kind " + k, ILLEGAL, () -> x.step(0, k, 6, 0, 0));
            }
            if (k != PUT) {
                thrown("w -1 in kind " + k, ILLEGAL, () -> x.step(0, k, 0, -1, 0));
                thrown("w 6 in kind " + k, ILLEGAL, () -> x.step(0, k, 0, 6, 0));
            }
            if (k >= SUM && k <= LESS) {
                thrown("x -1 in kind " + k, ILLEGAL, () -> x.step(0, k, 0, 0, -1));
                thrown("x 6 in kind " + k, ILLEGAL, () -> x.step(0, k, 0, 0, 6));
            }
        }
        due("wrong steps are none", 1, () -> x.step(0, PUT, 0, 0, 0));
    }

    // Promises 3, 4, 5

    private static void ends() {
        OnceNamed x = new OnceNamed(4);
        for (int b = 0; b < 4; b++) {
            x.step(b, PUT, 1, b * 10, 0);
            x.step(b, SAY, 0, 1, 0);
        }
        due("stops at first", 1, () -> x.run(0));
        x.go(0, 3);
        due("goes", 2, () -> x.run(0));
        due("to 3", 30, () -> x.said(1));
        x.fork(0, 0, 1, 2);
        due("forks", 2, () -> x.run(0));
        due("by 0 to no", 20, () -> x.said(1));
        x.start(0, -1);
        due("forks", 2, () -> x.run(0));
        due("by -1 to yes", 10, () -> x.said(1));
        x.fork(0, 1, 3, 3);
        due("forks to the same twice", 2, () -> x.run(0));
        due("which is 3", 30, () -> x.said(1));
        x.go(3, 2);
        due("goes on", 3, () -> x.run(0));
        x.stop(3);
        due("stops again", 2, () -> x.run(0));
        x.stop(0);
        due("stops at once", 1, () -> x.run(0));
        due("not reached any more", -1, () -> x.parent(3));
    }

    private static void endsWrong() {
        OnceNamed x = new OnceNamed(3);
        x.go(0, 1);
        thrown("go from -1", ILLEGAL, () -> x.go(-1, 0));
        thrown("go from n", ILLEGAL, () -> x.go(3, 0));
        thrown("go to -1", ILLEGAL, () -> x.go(0, -1));
        thrown("go to n", ILLEGAL, () -> x.go(0, 3));
        thrown("fork from -1", ILLEGAL, () -> x.fork(-1, 0, 0, 0));
        thrown("fork from n", ILLEGAL, () -> x.fork(3, 0, 0, 0));
        thrown("fork by -1", ILLEGAL, () -> x.fork(0, -1, 0, 0));
        thrown("fork by 6", ILLEGAL, () -> x.fork(0, 6, 0, 0));
        thrown("fork to -1", ILLEGAL, () -> x.fork(0, 0, -1, 0));
        thrown("fork to n", ILLEGAL, () -> x.fork(0, 0, 3, 0));
        thrown("fork to or -1", ILLEGAL, () -> x.fork(0, 0, 0, -1));
        thrown("fork to or n", ILLEGAL, () -> x.fork(0, 0, 0, 3));
        thrown("stop of -1", ILLEGAL, () -> x.stop(-1));
        thrown("stop of n", ILLEGAL, () -> x.stop(3));
        due("1 is still reached", 0, () -> x.parent(1));
        due("2 is still not", -1, () -> x.parent(2));
    }

    // Promise 6

    private static void start() {
        OnceNamed x = new OnceNamed(1);
        x.step(0, SAY, 0, 0, 0);
        x.step(0, SAY, 0, 5, 0);
        x.start(0, MIN);
        x.start(5, MAX);
        thrown("start of -1", ILLEGAL, () -> x.start(-1, 1));
        thrown("start of 6", ILLEGAL, () -> x.start(6, 1));
        x.build();
        for (int form = 0; form < 3; form++) {
            int f = form;
            due("run " + f, 2, () -> x.run(f));
            due("start of 0", MIN, () -> x.said(0));
            due("start of 5", MAX, () -> x.said(1));
        }
    }

    // "No form"

    private static void formIsTakenAway() {
        OnceNamed x = diamond();
        Deed[] changes = {
            () -> x.step(4, SAY, 0, 0, 0),
            () -> x.go(1, 3),
            () -> x.fork(0, 0, 1, 2),
            () -> x.stop(3),
            () -> x.start(0, 0)
        };
        for (int i = 0; i < changes.length; i++) {
            x.build();
            due("valid before change " + i, 1, () -> bit(x.valid()));
            changes[i].make();
            noForm(x);
            x.build();
            due("valid after change " + i, 1, () -> bit(x.valid()));
        }
        noForm(new OnceNamed(3));
    }

    private static void noForm(OnceNamed x) {
        thrown("propagate", UNSUPPORTED, () -> x.propagate());
        thrown("meeting", UNSUPPORTED, () -> x.meeting(-1, 0));
        thrown("source", UNSUPPORTED, () -> x.source(0, 0, -1));
        thrown("sets", UNSUPPORTED, () -> x.sets(0, -1));
        thrown("use", UNSUPPORTED, () -> x.use(0, -2, 0));
        thrown("alter", UNSUPPORTED, () -> x.alter(0, 0, 0, -1));
        thrown("turn", UNSUPPORTED, () -> x.turn(0, 0, 0, -1));
        thrown("valid", UNSUPPORTED, () -> x.valid());
        thrown("copies", UNSUPPORTED, () -> x.copies(-1, 0));
        thrown("run 1", UNSUPPORTED, () -> x.run(1));
        thrown("run 2", UNSUPPORTED, () -> x.run(2));
        thrown("run 3", ILLEGAL, () -> x.run(3));
        thrown("same 1", UNSUPPORTED, () -> x.same(1));
        thrown("same 2", UNSUPPORTED, () -> x.same(2));
        thrown("same -1", ILLEGAL, () -> x.same(-1));
        due("same 0", 1, () -> bit(x.same(0)));
    }

    private static void formStaysWhenThrown() {
        OnceNamed x = diamond();
        for (int i = 0; i < 5; i++) {
            x.step(1, SAY, 0, 1, 0);
        }
        x.build();
        x.propagate();
        thrown("step", STATE, () -> x.step(1, SAY, 0, 0, 0));
        thrown("step", ILLEGAL, () -> x.step(0, SAY, 0, 6, 0));
        thrown("go", ILLEGAL, () -> x.go(0, 5));
        thrown("fork", ILLEGAL, () -> x.fork(0, 6, 0, 0));
        thrown("stop", ILLEGAL, () -> x.stop(5));
        thrown("start", ILLEGAL, () -> x.start(6, 0));
        due("valid", 1, () -> bit(x.valid()));
        x.parent(0);
        x.run(0);
        x.same(2);
        due("still valid", 1, () -> bit(x.valid()));
    }

    // Promise 7

    private static void build() {
        OnceNamed x = diamond();
        due("names of the diamond", 10, () -> x.build());
        due("and again", 10, () -> x.build());
        x.alter(3, 0, 0, 101);
        due("not valid", 0, () -> bit(x.valid()));
        due("built anew", 10, () -> x.build());
        due("valid", 1, () -> bit(x.valid()));
        due("use as at first", 103, () -> x.use(3, 0, 0));

        OnceNamed y = swapping(3);
        due("names of the swap", 15, () -> y.build());
        due("copies gone", 3, () -> y.propagate());
        due("a copy that is gone", -1, () -> y.sets(2, 0));
        due("built anew", 15, () -> y.build());
        due("not propagated", 202, () -> y.sets(2, 0));
    }

    /** The numbers go down the tree of parents, not by the blocks' numbers nor level by level. */
    private static void buildOrder() {
        OnceNamed x = new OnceNamed(6);
        x.fork(0, 5, 3, 1);
        x.go(1, 4);
        x.go(3, 2);
        for (int b = 0; b < 6; b++) {
            x.step(b, PUT, 0, b, 0);
        }
        due("names", 11, () -> x.build());
        int[] names = {1, 2, 5, 4, 3, -1};
        for (int b = 0; b < 6; b++) {
            int block = b;
            due("name set in " + b, names[b], () -> x.sets(block, 0));
        }
        OnceNamed y = new OnceNamed(2);
        y.step(0, PUT, 0, 1, 0);
        y.go(0, 1);
        y.step(1, PUT, 1, 1, 0);
        y.step(1, PUT, 0, 2, 0);
        y.step(1, PUT, 1, 3, 0);
        y.step(1, SUM, 0, 0, 1);
        y.fork(1, 0, 1, 0);
        due("names in steps and meetings", 15, () -> y.build());
        due("meeting first", 1, () -> y.meeting(0, 0));
        due("and of the next variable", 101, () -> y.meeting(0, 1));
        due("then the step", 2, () -> y.sets(0, 0));
        due("meeting of the next block", 3, () -> y.meeting(1, 0));
        due("and of the next variable there", 102, () -> y.meeting(1, 1));
        due("its steps", 103, () -> y.sets(1, 0));
        due("its steps", 4, () -> y.sets(1, 1));
        due("its steps", 104, () -> y.sets(1, 2));
        due("its steps", 5, () -> y.sets(1, 3));
    }

    private static void buildMostNames() {
        OnceNamed x = new OnceNamed(12);
        for (int b = 0; b < 12; b++) {
            for (int k = 0; k < 6; k++) {
                x.step(b, SUM, 5, 5, 0);
            }
            x.fork(b, 5, 0, (b + 1) % 12);
        }
        due("names", 6 + 72 + 1, () -> x.build());
        due("last name", 573, () -> x.sets(11, 5));
        for (int b = 0; b < 12; b++) {
            x.fork(b, 5, Math.max(0, b - 1), Math.min(11, b + 1));
        }
        due("names, with a meeting in each", 6 + 72 + 12, () -> x.build());
        due("last name", 584, () -> x.sets(11, 5));
        due("valid", 1, () -> bit(x.valid()));
        x.alter(11, -1, 0, 584);
        thrown("no such name", ILLEGAL, () -> x.alter(11, -1, 0, 585));
    }

    // Promises 9, 10, 11

    private static void dominators() {
        OnceNamed x = diamond();
        int[] parents = {5, 0, 0, 0, -1};
        int[] below = {0b01111, 0b00010, 0b00100, 0b01000, 0};
        int[] frontiers = {0, 0b01000, 0b01000, 0, 0};
        lookAtGraph(x, 5, parents, below, frontiers);
        thrown("parent of -1", ILLEGAL, () -> x.parent(-1));
        thrown("parent of n", ILLEGAL, () -> x.parent(5));
        thrown("dominates -1", ILLEGAL, () -> x.dominates(0, -1));
        thrown("dominates n", ILLEGAL, () -> x.dominates(0, 5));
        thrown("-1 dominates", ILLEGAL, () -> x.dominates(-1, 0));
        thrown("n dominates", ILLEGAL, () -> x.dominates(5, 0));
        thrown("frontier -1", ILLEGAL, () -> x.frontier(0, -1));
        thrown("frontier n", ILLEGAL, () -> x.frontier(0, 5));
        thrown("frontier of -1", ILLEGAL, () -> x.frontier(-1, 0));
        thrown("frontier of n", ILLEGAL, () -> x.frontier(5, 0));
    }

    private static void lookAtGraph(
            OnceNamed x, int n, int[] parents, int[] below, int[] frontiers) {
        for (int i = 0; i < n; i++) {
            int b = i;
            due("parent of " + b, parents[b], () -> x.parent(b));
            for (int j = 0; j < n; j++) {
                int c = j;
                due(b + " dominates " + c, below[b] >> c & 1, () -> bit(x.dominates(b, c)));
                due("frontier of " + b + " has " + c, frontiers[b] >> c & 1,
                        () -> bit(x.frontier(b, c)));
            }
        }
    }

    /** A loop with two ways into it, one that leads back to block 0, and one of a block alone. */
    private static void dominatorsOfLoops() {
        OnceNamed x = new OnceNamed(6);
        x.fork(0, 0, 1, 2);
        x.go(1, 2);
        x.fork(2, 0, 1, 3);
        x.fork(3, 0, 3, 4);
        x.fork(4, 1, 0, 5);
        int[] parents = {6, 0, 0, 2, 3, 4};
        int[] below = {0b111111, 0b000010, 0b111100, 0b111000, 0b110000, 0b100000};
        int[] frontiers = {0b000001, 0b000100, 0b000011, 0b001001, 0b000001, 0};
        lookAtGraph(x, 6, parents, below, frontiers);

        OnceNamed y = new OnceNamed(1);
        y.go(0, 0);
        lookAtGraph(y, 1, new int[] {1}, new int[] {1}, new int[] {1});
    }

    private static void dominatorsAreOfTheProgramAsItIs() {
        OnceNamed x = diamond();
        x.build();
        x.stop(2);
        due("parent", 1, () -> x.parent(3));
        due("dominates", 1, () -> bit(x.dominates(1, 3)));
        due("frontier", 0, () -> bit(x.frontier(1, 3)));
        x.go(2, 4);
        due("parent", 0, () -> x.parent(3));
        due("parent", 2, () -> x.parent(4));
        due("frontier", 1, () -> bit(x.frontier(4, 3)));
        due("frontier", 1, () -> bit(x.frontier(4, 4)));
    }

    // Promises 12, 13

    private static void meetingsAndSources() {
        OnceNamed x = diamond();
        x.build();
        for (int i = 0; i < 5; i++) {
            int b = i;
            for (int j = 0; j < 6; j++) {
                int v = j;
                due("meeting " + b + " " + v, b == 3 && v == 1 ? 103 : -1, () -> x.meeting(b, v));
                for (int p = 0; p <= 5; p++) {
                    int from = p;
                    int want = b != 3 || v != 1 ? -1 : p == 1 ? 101 : p == 2 ? 102 : -1;
                    due("source " + b + " " + v + " " + p, want, () -> x.source(b, v, from));
                }
            }
        }
        thrown("meeting in -1", ILLEGAL, () -> x.meeting(-1, 0));
        thrown("meeting in n", ILLEGAL, () -> x.meeting(5, 0));
        thrown("meeting of -1", ILLEGAL, () -> x.meeting(0, -1));
        thrown("meeting of 6", ILLEGAL, () -> x.meeting(0, 6));
        thrown("source in -1", ILLEGAL, () -> x.source(-1, 0, 0));
        thrown("source in n", ILLEGAL, () -> x.source(5, 0, 0));
        thrown("source of -1", ILLEGAL, () -> x.source(0, -1, 0));
        thrown("source of 6", ILLEGAL, () -> x.source(0, 6, 0));
        thrown("source for -1", ILLEGAL, () -> x.source(0, 0, -1));
        thrown("source for n + 1", ILLEGAL, () -> x.source(0, 0, 6));
    }

    private static void meetingsAtTheEntry() {
        OnceNamed x = new OnceNamed(1);
        x.step(0, SUM, 3, 3, 1);
        x.fork(0, 3, 0, 0);
        due("names", 8, () -> x.build());
        due("meeting", 301, () -> x.meeting(0, 3));
        due("source for the entry", 300, () -> x.source(0, 3, 1));
        due("source for itself", 302, () -> x.source(0, 3, 0));
        due("no meeting", -1, () -> x.meeting(0, 1));
        due("no source", -1, () -> x.source(0, 1, 1));
    }

    /** Variable 0 is set in 1 alone; it meets in 3, and by that in 5. */
    private static void meetingsOfMeetings() {
        OnceNamed x = new OnceNamed(6);
        x.fork(0, 5, 1, 2);
        x.step(1, PUT, 0, 1, 0);
        x.go(1, 3);
        x.fork(2, 5, 3, 4);
        x.go(3, 5);
        x.go(4, 5);
        due("names", 9, () -> x.build());
        due("meeting in 3", 2, () -> x.meeting(3, 0));
        due("meeting in 5", 3, () -> x.meeting(5, 0));
        due("source", 1, () -> x.source(3, 0, 1));
        due("source", 0, () -> x.source(3, 0, 2));
        due("source", 2, () -> x.source(5, 0, 3));
        due("source", 0, () -> x.source(5, 0, 4));
        due("no meeting in 4", -1, () -> x.meeting(4, 0));
    }

    // Promises 14, 15

    private static void setsAndUses() {
        OnceNamed x = new OnceNamed(3);
        x.step(0, PUT, 0, 4, 0);
        x.step(0, SUM, 0, 0, 1);
        x.step(0, COPY, 1, 0, 5);
        x.step(0, LESS, 2, 1, 2);
        x.step(0, SAY, 4, 2, 4);
        x.fork(0, 2, 1, 1);
        x.step(1, QUOTIENT, 1, 2, 1);
        x.step(2, SUM, 0, 0, 0);
        x.fork(2, 0, 1, 1);
        x.build();
        int[] sets = {1, 2, 101, 201, -1};
        int[] first = {-1, 1, 2, 101, 201};
        int[] second = {-1, 100, -1, 200, -1};
        for (int i = 0; i < 5; i++) {
            int k = i;
            due("sets " + k, sets[k], () -> x.sets(0, k));
            due("use 0 of " + k, first[k], () -> x.use(0, k, 0));
            due("use 1 of " + k, second[k], () -> x.use(0, k, 1));
        }
        due("use of a fork", 201, () -> x.use(0, -1, 0));
        due("whichever is asked for", 201, () -> x.use(0, -1, MIN));
        due("use of a stop", -1, () -> x.use(1, -1, 0));
        due("of the parent's name", 201, () -> x.use(1, 0, 0));
        due("of the parent's name", 101, () -> x.use(1, 0, 1));
        due("sets", 102, () -> x.sets(1, 0));
        due("not reached", -1, () -> x.sets(2, 0));
        due("not reached", -1, () -> x.use(2, 0, 0));
        due("not reached", -1, () -> x.use(2, 0, 1));
        due("not reached", -1, () -> x.use(2, -1, 0));
        x.go(0, 1);
        x.build();
        due("use of a go", -1, () -> x.use(0, -1, 0));
    }

    private static void setsAndUsesWrong() {
        OnceNamed x = diamond();
        x.build();
        thrown("sets in -1", ILLEGAL, () -> x.sets(-1, 0));
        thrown("sets in n", ILLEGAL, () -> x.sets(5, 0));
        thrown("sets of -1", ILLEGAL, () -> x.sets(0, -1));
        thrown("sets of one too many", ILLEGAL, () -> x.sets(0, 1));
        thrown("sets of one too many, not reached", ILLEGAL, () -> x.sets(4, 2));
        thrown("use in -1", ILLEGAL, () -> x.use(-1, -1, 0));
        thrown("use in n", ILLEGAL, () -> x.use(5, -1, 0));
        thrown("use of -2", ILLEGAL, () -> x.use(0, -2, 0));
        thrown("use of one too many", ILLEGAL, () -> x.use(0, 1, 0));
        thrown("which -1", ILLEGAL, () -> x.use(0, 0, -1));
        thrown("which 2", ILLEGAL, () -> x.use(0, 0, 2));
        thrown("which 2, not reached", ILLEGAL, () -> x.use(4, 0, 2));
    }

    // Promises 16, 17

    private static void alter() {
        OnceNamed x = diamond();
        x.step(3, LESS, 2, 1, 0);
        x.build();
        x.alter(3, 0, 0, 500);
        due("altered", 500, () -> x.use(3, 0, 0));
        x.alter(3, 1, 1, 101);
        due("altered", 101, () -> x.use(3, 1, 1));
        due("the other is not", 103, () -> x.use(3, 1, 0));
        x.alter(3, 1, 0, 201);
        due("altered", 201, () -> x.use(3, 1, 0));
        x.alter(0, -1, 77, 0);
        due("altered", 0, () -> x.use(0, -1, 0));
        thrown("block", ILLEGAL, () -> x.alter(5, -1, 0, 0));
        thrown("block", ILLEGAL, () -> x.alter(-1, -1, 0, 0));
        thrown("step", ILLEGAL, () -> x.alter(3, 2, 0, 0));
        thrown("step", ILLEGAL, () -> x.alter(3, -2, 0, 0));
        thrown("which", ILLEGAL, () -> x.alter(3, 0, 2, 0));
        thrown("which", ILLEGAL, () -> x.alter(3, 0, -1, 0));
        thrown("no use for x", ILLEGAL, () -> x.alter(3, 0, 1, 0));
        thrown("no use of put", ILLEGAL, () -> x.alter(0, 0, 0, 0));
        thrown("no use of go", ILLEGAL, () -> x.alter(1, -1, 0, 0));
        thrown("not reached", ILLEGAL, () -> x.alter(4, 0, 0, 0));
        int[] none = {-1, 2, 99, 104, 202, 199, 301, 501, 599, 600, 700, MIN, MAX};
        for (int name : none) {
            thrown("no name " + name, ILLEGAL, () -> x.alter(3, 0, 0, name));
            thrown("no name " + name, ILLEGAL, () -> x.turn(3, 1, 1, name));
        }
        due("not altered by that", 500, () -> x.use(3, 0, 0));
        due("not turned by that", 101, () -> x.source(3, 1, 1));
    }

    private static void turn() {
        OnceNamed x = diamond();
        x.build();
        x.turn(3, 1, 1, 102);
        due("turned", 102, () -> x.source(3, 1, 1));
        due("the other is not", 102, () -> x.source(3, 1, 2));
        x.turn(3, 1, 2, 300);
        due("turned", 300, () -> x.source(3, 1, 2));
        due("turned before", 102, () -> x.source(3, 1, 1));
        thrown("block", ILLEGAL, () -> x.turn(5, 1, 1, 0));
        thrown("block", ILLEGAL, () -> x.turn(-1, 1, 1, 0));
        thrown("variable", ILLEGAL, () -> x.turn(3, 6, 1, 0));
        thrown("variable", ILLEGAL, () -> x.turn(3, -1, 1, 0));
        thrown("forerunner", ILLEGAL, () -> x.turn(3, 1, 6, 0));
        thrown("forerunner", ILLEGAL, () -> x.turn(3, 1, -1, 0));
        thrown("no forerunner", ILLEGAL, () -> x.turn(3, 1, 0, 0));
        thrown("no forerunner", ILLEGAL, () -> x.turn(3, 1, 5, 0));
        thrown("not reached", ILLEGAL, () -> x.turn(3, 1, 4, 0));
        thrown("no meeting", ILLEGAL, () -> x.turn(3, 0, 1, 0));
        due("name of the meeting", 103, () -> x.meeting(3, 1));
    }

    // Promise 18

    private static void validSteps() {
        OnceNamed x = new OnceNamed(3);
        x.step(0, PUT, 0, 1, 0);
        x.fork(0, 0, 1, 2);
        x.step(1, PUT, 1, 1, 0);
        x.step(1, SUM, 2, 0, 1);
        x.step(1, PUT, 3, 1, 0);
        x.fork(1, 2, 1, 2);
        x.step(2, SAY, 0, 4, 0);
        x.build();
        due("valid", 1, () -> bit(x.valid()));
        int meeting = x.meeting(1, 1);
        int earlier = x.sets(1, 0);
        int itself = x.sets(1, 1);
        int later = x.sets(1, 2);
        int next = x.meeting(2, 1);
        alteredIs(x, 1, 1, 0, meeting, true);
        alteredIs(x, 1, 1, 0, earlier, true);
        alteredIs(x, 1, 1, 0, itself, false);
        alteredIs(x, 1, 1, 0, later, false);
        alteredIs(x, 1, 1, 0, 1, true);
        alteredIs(x, 1, 1, 0, 500, true);
        alteredIs(x, 1, 1, 1, later, false);
        alteredIs(x, 1, 1, 1, next, false);
        alteredIs(x, 1, 1, 1, meeting, true);
        alteredIs(x, 2, 0, 0, earlier, false);
        alteredIs(x, 2, 0, 0, next, true);
        alteredIs(x, 2, 0, 0, 1, true);
        alteredIs(x, 0, -1, 0, earlier, false);
    }

    private static void alteredIs(OnceNamed x, int b, int k, int which, int name, boolean valid) {
        int old = x.use(b, k, which);
        x.alter(b, k, which, name);
        due("valid with " + name + " in " + b + " " + k, bit(valid), () -> bit(x.valid()));
        x.alter(b, k, which, old);
        due("valid again", 1, () -> bit(x.valid()));
    }

    private static void turnedIs(OnceNamed x, int b, int v, int p, int name, boolean valid) {
        int old = x.source(b, v, p);
        x.turn(b, v, p, name);
        due("valid with " + name + " from " + p + " to " + b, bit(valid), () -> bit(x.valid()));
        x.turn(b, v, p, old);
        due("valid again", 1, () -> bit(x.valid()));
    }

    private static void validEndsAndMeetings() {
        OnceNamed x = new OnceNamed(4);
        x.step(0, SUM, 0, 0, 1);
        x.step(0, PUT, 1, 5, 0);
        x.fork(0, 0, 1, 2);
        x.step(1, PUT, 0, 2, 0);
        x.go(1, 0);
        x.step(2, PUT, 2, 3, 0);
        x.fork(2, 2, 0, 3);
        x.build();
        alteredIs(x, 0, -1, 0, x.sets(0, 1), true);
        alteredIs(x, 0, -1, 0, x.meeting(0, 2), true);
        alteredIs(x, 0, -1, 0, x.sets(1, 0), false);
        alteredIs(x, 2, -1, 0, x.sets(1, 0), false);
        alteredIs(x, 2, -1, 0, x.sets(2, 0), true);
        turnedIs(x, 0, 0, 4, 500, true);
        turnedIs(x, 0, 0, 4, x.meeting(0, 0), false);
        turnedIs(x, 0, 0, 4, x.sets(0, 1), false);
        turnedIs(x, 0, 0, 4, x.sets(1, 0), false);
        turnedIs(x, 0, 0, 1, x.sets(1, 0), true);
        turnedIs(x, 0, 0, 1, x.sets(2, 0), false);
        turnedIs(x, 0, 0, 1, x.sets(0, 1), true);
        turnedIs(x, 0, 0, 1, x.meeting(0, 1), true);
        turnedIs(x, 0, 0, 2, x.sets(2, 0), true);
        turnedIs(x, 0, 0, 2, x.sets(1, 0), false);
    }

    // Promise 8

    private static void propagate() {
        OnceNamed x = new OnceNamed(4);
        x.step(0, PUT, 0, 9, 0);
        x.step(0, COPY, 1, 0, 0);
        x.step(0, COPY, 2, 1, 0);
        x.fork(0, 2, 1, 2);
        x.step(1, COPY, 2, 2, 0);
        x.step(1, COPY, 3, 5, 0);
        x.go(1, 2);
        x.step(2, SUM, 4, 2, 3);
        x.step(2, SAY, 0, 1, 0);
        x.step(3, COPY, 0, 1, 0);
        due("names", 14, () -> x.build());
        due("copies that went", 4, () -> x.propagate());
        due("gone", -1, () -> x.sets(0, 1));
        due("gone", -1, () -> x.sets(0, 2));
        due("gone", -1, () -> x.use(0, 1, 0));
        due("gone", -1, () -> x.sets(1, 0));
        due("gone", -1, () -> x.use(1, 1, 0));
        due("not gone", 1, () -> x.sets(0, 0));
        due("not gone", 401, () -> x.sets(2, 0));
        due("end's use", 1, () -> x.use(0, -1, 0));
        due("meeting", 203, () -> x.meeting(2, 2));
        due("meeting's use", 1, () -> x.source(2, 2, 0));
        due("meeting's use", 1, () -> x.source(2, 2, 1));
        due("meeting's use", 300, () -> x.source(2, 3, 0));
        due("meeting's use", 500, () -> x.source(2, 3, 1));
        due("step's use", 203, () -> x.use(2, 0, 0));
        due("step's use", 302, () -> x.use(2, 0, 1));
        due("step's use", 1, () -> x.use(2, 1, 0));
        thrown("a use that is gone", ILLEGAL, () -> x.alter(0, 1, 0, 0));
        thrown("a name that is gone", ILLEGAL, () -> x.alter(2, 1, 0, 101));
        thrown("a name that is gone", ILLEGAL, () -> x.turn(2, 2, 0, 202));
        x.alter(2, 1, 0, 203);
        due("valid", 1, () -> bit(x.valid()));
        due("a second time", 0, () -> x.propagate());
        due("a step that is gone is one", -1, () -> x.use(1, 0, 1));
        thrown("no such step", ILLEGAL, () -> x.sets(1, 2));
    }

    /** What is altered before counts: a copy stands for what it uses by then. */
    private static void propagateAfterAlter() {
        OnceNamed x = straight(1, 2, 3);
        x.step(0, COPY, 0, 1, 0);
        x.step(0, COPY, 1, 0, 0);
        x.step(0, SAY, 0, 1, 0);
        x.step(0, SUM, 5, 5, 1);
        x.build();
        x.alter(0, 0, 0, 200);
        x.alter(0, 2, 0, 1);
        due("copies", 2, () -> x.propagate());
        due("use for w", 200, () -> x.use(0, 2, 0));
        due("use for x", 200, () -> x.use(0, 3, 1));
        due("run", 1, () -> x.run(1));
        due("said", 3, () -> x.said(0));
        due("not the same", 0, () -> bit(x.same(1)));
    }

    private static void propagateNotValid() {
        OnceNamed x = straight();
        x.step(0, COPY, 0, 1, 0);
        x.step(0, COPY, 1, 0, 0);
        x.build();
        x.alter(0, 0, 0, 101);
        thrown("copies of one another", STATE, () -> x.propagate());
        due("nothing is changed", 1, () -> x.sets(0, 0));
        due("nothing is changed", 101, () -> x.use(0, 0, 0));
        x.alter(0, 0, 0, 1);
        thrown("copy of itself", STATE, () -> x.propagate());
        x.alter(0, 0, 0, 0);
        due("valid again", 2, () -> x.propagate());
        OnceNamed y = diamond();
        y.build();
        y.propagate();
        y.turn(3, 1, 1, 102);
        thrown("a second time, not valid", STATE, () -> y.propagate());
    }

    // Promise 19

    private static void copies() {
        OnceNamed x = swapping(3);
        x.build();
        due("from 0", 4, () -> x.copies(1, 0));
        due("from 2", 4, () -> x.copies(1, 2));
        due("no meetings", 0, () -> x.copies(2, 1));
        due("no forerunner", 0, () -> x.copies(1, 3));
        due("no forerunner", 0, () -> x.copies(1, 4));
        due("no forerunner", 0, () -> x.copies(1, 1));
        x.propagate();
        int a = x.meeting(1, 0);
        int b = x.meeting(1, 1);
        int c = x.meeting(1, 2);
        int d = x.meeting(1, 3);
        due("a swap, and a that c and its ring share", 4, () -> x.copies(1, 2));
        x.turn(1, 2, 2, 200);
        due("a swap alone", 5, () -> x.copies(1, 2));
        x.turn(1, 2, 2, d);
        x.turn(1, 3, 2, c);
        due("two swaps", 6, () -> x.copies(1, 2));
        x.turn(1, 1, 2, c);
        x.turn(1, 2, 2, d);
        x.turn(1, 3, 2, a);
        due("a ring of four", 5, () -> x.copies(1, 2));
        x.turn(1, 0, 2, a);
        due("one uses its own name, the others make a row", 3, () -> x.copies(1, 2));
        x.turn(1, 1, 2, b);
        x.turn(1, 2, 2, c);
        x.turn(1, 3, 2, d);
        due("all use their own names", 0, () -> x.copies(1, 2));
        due("from 0 as before", 4, () -> x.copies(1, 0));

        OnceNamed y = new OnceNamed(1);
        y.step(0, SUM, 3, 3, 1);
        y.go(0, 0);
        y.build();
        due("from the entry", 1, () -> y.copies(0, 1));
        due("from itself", 1, () -> y.copies(0, 0));
    }

    private static void copiesWrong() {
        OnceNamed x = diamond();
        x.build();
        thrown("block -1", ILLEGAL, () -> x.copies(-1, 0));
        thrown("block n", ILLEGAL, () -> x.copies(5, 0));
        thrown("from -1", ILLEGAL, () -> x.copies(0, -1));
        thrown("from n + 1", ILLEGAL, () -> x.copies(0, 6));
        due("from the entry to 0", 0, () -> x.copies(0, 5));
        due("from a forerunner that is not reached", 0, () -> x.copies(3, 4));
        due("to a block that is not reached", 0, () -> x.copies(4, 4));
        due("from a forerunner", 1, () -> x.copies(3, 1));
    }

    // Promise 20

    private static void runKinds() {
        says(SUM, 3, 4, 7);
        says(SUM, MAX, 1, MIN);
        says(DIFFERENCE, 3, 4, -1);
        says(DIFFERENCE, MIN, 1, MAX);
        says(PRODUCT, -3, 4, -12);
        says(PRODUCT, 65536, 65536, 0);
        says(PRODUCT, 65536, 32768, MIN);
        says(QUOTIENT, 7, 2, 3);
        says(QUOTIENT, -7, 2, -3);
        says(QUOTIENT, 7, -2, -3);
        says(QUOTIENT, -7, -2, 3);
        says(QUOTIENT, 0, 5, 0);
        says(QUOTIENT, MIN, -1, MIN);
        says(LESS, 3, 4, 1);
        says(LESS, 4, 4, 0);
        says(LESS, 4, 3, 0);
        says(LESS, MIN, MAX, 1);
        says(LESS, MAX, MIN, 0);
        says(COPY, 8, 9, 8);
    }

    private static void says(int kind, int w, int x, int want) {
        OnceNamed o = straight(w, x);
        o.step(0, kind, 2, 0, 1);
        o.step(0, SAY, 0, 2, 0);
        o.build();
        for (int form = 0; form < 3; form++) {
            int f = form;
            due("run " + f, 1, () -> o.run(f));
            due("kind " + kind + " of " + w + " and " + x, want, () -> o.said(0));
        }
    }

    /** Block 1 is come to as often as the start of variable 0 tells, and says it each time. */
    private static OnceNamed counting(int times, boolean saying) {
        OnceNamed x = new OnceNamed(3);
        x.start(0, times);
        x.step(0, PUT, 1, 1, 0);
        x.go(0, 1);
        if (saying) {
            x.step(1, SAY, 0, 0, 0);
        }
        x.step(1, DIFFERENCE, 0, 0, 1);
        x.fork(1, 0, 1, 2);
        x.build();
        return x;
    }

    private static void runLimits() {
        for (int form = 0; form < 3; form++) {
            int f = form;
            due("100 blocks", 0, () -> counting(98, false).run(f));
            thrown("101 blocks", STATE, () -> counting(99, false).run(f));
            due("50 said", 50, () -> counting(50, true).run(f));
            OnceNamed x = counting(51, true);
            thrown("51 said", STATE, () -> x.run(f));
            due("first said", 51, () -> x.said(0));
            due("last said", 2, () -> x.said(49));
            thrown("none said", INDEX, () -> x.said(50));
        }
        OnceNamed y = new OnceNamed(1);
        y.step(0, SUM, 0, 0, 1);
        y.go(0, 0);
        y.build();
        thrown("without end", STATE, () -> y.run(0));
        thrown("without end", STATE, () -> y.run(1));
        thrown("without end", STATE, () -> y.run(2));
    }

    private static void runZero() {
        OnceNamed x = straight(5, 0);
        x.step(0, SAY, 0, 0, 0);
        x.step(0, QUOTIENT, 2, 0, 1);
        x.step(0, SAY, 0, 0, 0);
        x.build();
        for (int form = 0; form < 3; form++) {
            int f = form;
            thrown("by 0 in " + f, ZERO, () -> x.run(f));
            due("said before", 5, () -> x.said(0));
            thrown("not said", INDEX, () -> x.said(1));
        }
        OnceNamed y = counting(50, true);
        y.step(2, QUOTIENT, 0, 1, 0);
        y.step(2, SAY, 0, 1, 0);
        thrown("by 0 before the limit", ZERO, () -> y.run(0));
        OnceNamed z = counting(50, true);
        z.step(2, SAY, 0, 1, 0);
        z.step(2, QUOTIENT, 0, 1, 0);
        thrown("the limit before by 0", STATE, () -> z.run(0));
    }

    private static void runNamed() {
        OnceNamed x = diamond();
        x.build();
        for (int form = 0; form < 3; form++) {
            int f = form;
            due("run " + f, 1, () -> x.run(f));
            due("said", 5, () -> x.said(0));
        }
        x.step(3, PUT, 1, 9, 0);
        x.step(3, SAY, 0, 1, 0);
        thrown("run 1", UNSUPPORTED, () -> x.run(1));
        thrown("run 2", UNSUPPORTED, () -> x.run(2));
        due("said stays", 5, () -> x.said(0));
        thrown("no more is said", INDEX, () -> x.said(1));
        x.build();
        thrown("run -1", ILLEGAL, () -> x.run(-1));
        thrown("run 3", ILLEGAL, () -> x.run(3));
        due("said stays", 5, () -> x.said(0));
        thrown("no more is said", INDEX, () -> x.said(1));
        due("run", 2, () -> x.run(2));
        due("said anew", 9, () -> x.said(1));
    }

    private static void runAlteredForm() {
        OnceNamed x = diamond();
        x.start(4, 44);
        x.build();
        x.turn(3, 1, 1, 400);
        for (int form = 1; form < 3; form++) {
            int f = form;
            due("run " + f, 1, () -> x.run(f));
            due("by the turned use", 44, () -> x.said(0));
        }
        x.alter(3, 0, 0, 102);
        for (int form = 1; form < 3; form++) {
            int f = form;
            due("run " + f, 1, () -> x.run(f));
            due("a name that was never set", 0, () -> x.said(0));
        }
        x.alter(0, -1, 0, 200);
        for (int form = 1; form < 3; form++) {
            int f = form;
            due("run " + f, 1, () -> x.run(f));
            due("by the altered fork", 6, () -> x.said(0));
        }
        x.alter(3, 0, 0, 101);
        x.alter(0, -1, 0, 1);
        due("run", 1, () -> x.run(1));
        due("set on this way", 5, () -> x.said(0));
        x.alter(0, -1, 0, 200);
        due("run", 1, () -> x.run(1));
        due("not set in this run, but in the one before", 0, () -> x.said(0));
        due("the program itself", 1, () -> x.run(0));
        due("goes its way", 5, () -> x.said(0));
    }

    private static void runSwap() {
        OnceNamed x = swapping(3);
        x.build();
        runsSwapping(x);
        x.propagate();
        runsSwapping(x);
        x.turn(1, 2, 2, 200);
        due("a swap through the spare place", 5, () -> x.copies(1, 2));
        runsSwapping(x);
    }

    private static void runsSwapping(OnceNamed x) {
        int[] said = {7, 8, 8, 7, 7, 8, 8, 7};
        for (int form = 0; form < 3; form++) {
            int f = form;
            due("run " + f, said.length, () -> x.run(f));
            for (int i = 0; i < said.length; i++) {
                int at = i;
                due("said " + i + " in form " + f, said[i], () -> x.said(at));
            }
            due("same " + f, 1, () -> bit(x.same(f)));
        }
    }

    // Promise 21

    private static void said() {
        OnceNamed x = straight(1, 2);
        x.step(0, SAY, 0, 0, 0);
        x.step(0, SAY, 0, 1, 0);
        thrown("before a run", INDEX, () -> x.said(0));
        x.run(0);
        due("first", 1, () -> x.said(0));
        due("second", 2, () -> x.said(1));
        thrown("third", INDEX, () -> x.said(2));
        thrown("-1", INDEX, () -> x.said(-1));
        thrown("least", INDEX, () -> x.said(MIN));
        thrown("greatest", INDEX, () -> x.said(MAX));
        x.start(0, 9);
        due("same", 1, () -> bit(x.same(0)));
        due("same is no run", 1, () -> x.said(0));
        x.run(0);
        due("the latest run", 9, () -> x.said(0));
        x.build();
        x.alter(0, 0, 0, 500);
        x.run(1);
        due("the latest run", 0, () -> x.said(0));
        OnceNamed y = straight(1);
        y.step(0, SAY, 0, 0, 0);
        y.start(5, 1);
        y.run(0);
        y.go(0, 0);
        thrown("the limit", STATE, () -> y.run(0));
        due("said until it", 1, () -> y.said(49));
        y.stop(0);
        y.run(0);
        thrown("less is said now", INDEX, () -> y.said(1));
    }

    // Promise 22

    private static void same() {
        OnceNamed x = diamond();
        x.build();
        for (int form = 0; form < 3; form++) {
            int f = form;
            due("same " + f, 1, () -> bit(x.same(f)));
        }
        thrown("same -1", ILLEGAL, () -> x.same(-1));
        thrown("same 3", ILLEGAL, () -> x.same(3));
        x.alter(3, 0, 0, 102);
        due("same 0", 1, () -> bit(x.same(0)));
        due("same 1", 0, () -> bit(x.same(1)));
        due("same 2", 0, () -> bit(x.same(2)));
        x.start(2, 2);
        thrown("no form", UNSUPPORTED, () -> x.same(2));

        OnceNamed y = counting(3, true);
        y.alter(1, -1, 0, 500);
        due("says less", 0, () -> bit(y.same(1)));
        y.alter(1, -1, 0, 101);
        due("says more", 0, () -> bit(y.same(2)));

        OnceNamed z = new OnceNamed(3);
        z.step(0, SAY, 0, 0, 0);
        z.step(0, SAY, 0, 0, 0);
        z.fork(0, 0, 1, 2);
        z.step(1, SAY, 0, 0, 0);
        z.start(1, 1);
        z.build();
        z.alter(0, -1, 0, 100);
        due("says one more and ends as well", 0, () -> bit(z.same(1)));
        z.start(0, 0);
        z.fork(0, 1, 1, 2);
        z.build();
        z.alter(0, -1, 0, 200);
        due("says one less and ends as well", 0, () -> bit(z.same(2)));
    }

    private static void sameFails() {
        OnceNamed x = straight(5, 0);
        x.step(0, SAY, 0, 0, 0);
        x.step(0, QUOTIENT, 2, 0, 1);
        x.build();
        due("both by zero", 1, () -> bit(x.same(1)));
        x.alter(0, 1, 1, 0);
        due("one by zero, one not", 0, () -> bit(x.same(1)));
        due("one by zero, one not", 0, () -> bit(x.same(2)));

        OnceNamed y = counting(99, false);
        due("both by limit", 1, () -> bit(y.same(1)));
        y.alter(1, -1, 0, 500);
        due("one by limit, one not", 0, () -> bit(y.same(1)));

        OnceNamed z = new OnceNamed(2);
        z.start(0, 1);
        z.step(0, QUOTIENT, 1, 0, 2);
        z.fork(0, 0, 0, 1);
        z.build();
        due("both by zero", 1, () -> bit(z.same(2)));
        z.alter(0, 0, 1, 0);
        due("one by zero, one by limit", 0, () -> bit(z.same(2)));
        thrown("nothing was said", INDEX, () -> z.said(0));
    }

    private static void exampleOfTheReadme() {
        OnceNamed program = new OnceNamed(3);
        program.start(0, 3);
        program.step(0, 0, 1, 1, 0);
        program.go(0, 1);
        program.step(1, 7, 0, 0, 0);
        program.step(1, 3, 0, 0, 1);
        program.fork(1, 0, 1, 2);
        due("parent", 1, () -> program.parent(2));
        due("frontier", 1, () -> bit(program.frontier(1, 1)));
        due("names", 9, () -> program.build());
        due("meeting", 1, () -> program.meeting(1, 0));
        due("source", 0, () -> program.source(1, 0, 0));
        due("source", 2, () -> program.source(1, 0, 1));
        due("valid", 1, () -> bit(program.valid()));
        due("run", 3, () -> program.run(2));
        due("said", 3, () -> program.said(0));
        due("same", 1, () -> bit(program.same(2)));
    }
}
