import java.lang.reflect.Method;
import java.util.Arrays;
import java.util.Set;
import java.util.TreeSet;

/**
 * The document's terms and what stands around its promises, each sentence at the last value that
 * is in order and the first beyond.
 */
public final class TermsTest extends Sentences {
    /** A call with one argument left open. */
    private interface At {
        void make(OnceNamed x, int a);
    }

    public static void main(String[] args) {
        section("What it is");
        sentence("Small programs of blocks with steps and branches: which block dominates which, "
                + "where the ways of a variable meet, a form in which every name is set in one "
                + "place alone, the same without copies, a check of such forms, and running them "
                + "in three ways.", TermsTest::wholeWay);
        sentence("An object is used for at most 512 calls after it has been made; what later "
                + "calls answer is free.", TermsTest::call512);

        section("Terms");
        programs();
        ends();
        graphs();
        names();
        propagated();
        validity();
        running();
        throwing();
        notPromised();
        sectionsAre("(?!Promise \\d|The public face).*");
        end();
    }

    private static void programs() {
        sentence("A PROGRAM has BLOCKS 0 .. n - 1 and VARIABLES 0 .. 5.", () -> {
            firstAndLastBlock();
            firstAndLastVariable();
        });
        sentence("A block has at most 6 STEPS, in an order, and an END.", () -> {
            sixSteps();
            stepsInOrder();
        });
        sentence("Steps, by KIND: 0 PUT: v becomes the number w, -999 .. 999.", TermsTest::put);
        sentence("1 COPY: v becomes w, a variable.", TermsTest::copy);
        sentence("2 SUM, 3 DIFFERENCE, 4 PRODUCT, 5 QUOTIENT", () -> {
            reckons(SUM, 7, 3, 10);
            reckons(DIFFERENCE, 7, 3, 4);
            reckons(DIFFERENCE, 3, 7, -4);
            reckons(PRODUCT, 7, -3, -21);
            reckons(QUOTIENT, 21, 3, 7);
            reckons(QUOTIENT, 3, 21, 0);
        });
        sentence("5 QUOTIENT (towards 0)", () -> {
            reckons(QUOTIENT, 5, 3, 1);
            reckons(QUOTIENT, 6, 3, 2);
            reckons(QUOTIENT, -5, 3, -1);
            reckons(QUOTIENT, -6, 3, -2);
            reckons(QUOTIENT, 5, -3, -1);
            reckons(QUOTIENT, -5, -3, 1);
            reckons(QUOTIENT, -1, 2, 0);
        });
        sentence(", 6 LESS (1 if w is less than x, else 0)", () -> {
            reckons(LESS, 4, 5, 1);
            reckons(LESS, 5, 5, 0);
            reckons(LESS, 6, 5, 0);
            reckons(LESS, -1, 0, 1);
            reckons(LESS, MIN, MAX, 1);
            reckons(LESS, MAX, MIN, 0);
            reckons(LESS, MIN, MIN + 1, 1);
            reckons(LESS, MAX, MAX, 0);
        });
        sentence(": v becomes that of the variables w and x", TermsTest::threeVariables);
        sentence("(ints that go round)", () -> {
            reckons(SUM, MAX - 1, 1, MAX);
            reckons(SUM, MAX, 1, MIN);
            reckons(SUM, MIN + 1, -1, MIN);
            reckons(SUM, MIN, -1, MAX);
            reckons(DIFFERENCE, MIN + 1, 1, MIN);
            reckons(DIFFERENCE, MIN, 1, MAX);
            reckons(DIFFERENCE, MAX, -1, MIN);
            reckons(DIFFERENCE, 0, MIN, MIN);
            reckons(PRODUCT, 46340, 46340, 2147395600);
            reckons(PRODUCT, 46341, 46341, -2147479015);
            reckons(PRODUCT, 65536, 65536, 0);
            reckons(PRODUCT, MIN, -1, MIN);
            reckons(QUOTIENT, MIN + 1, -1, MAX);
            reckons(QUOTIENT, MIN, -1, MIN);
        });
        sentence("7 SAY: the variable w is said.", () -> {
            OnceNamed x = oneBlock(10, 11, 12, 13, 14, 15);
            for (int v = 5; v >= 0; v--) {
                x.step(0, SAY, 5 - v, v, v);
            }
            allSay("all variables", x, 15, 14, 13, 12, 11, 10);
            OnceNamed y = oneBlock(3);
            y.step(0, SAY, 0, 1, 0);
            y.step(0, SAY, 1, 0, 1);
            allSay("saying sets nothing", y, 0, 3);
        });
    }

    private static void ends() {
        sentence("An end is STOP (at first),", () -> {
            OnceNamed x = new OnceNamed(12);
            for (int b = 0; b < 12; b++) {
                x.step(b, SAY, 0, 0, 0);
            }
            allSay("at first", x, 0);
        });
        sentence("GO to a block,", () -> {
            OnceNamed x = numbered(12);
            x.go(0, 11);
            x.go(11, 1);
            allSay("to the last and back", x, 0, 11, 1);
        });
        sentence("or FORK: to one block if a variable is not 0, "
                + "to another one (perhaps the same) if it is.", () -> {
                    forks(0, 2);
                    forks(1, 1);
                    forks(-1, 1);
                    forks(MIN, 1);
                    forks(MAX, 1);
                    forksToTheSame(0);
                    forksToTheSame(1);
                });
        sentence("Blocks to which an end leads are FOLLOWERS;", () -> {
            OnceNamed x = new OnceNamed(5);
            reachedAre("stop", x, 0);
            x.go(0, 4);
            reachedAre("go", x, 0, 4);
            x.fork(0, 0, 1, 3);
            reachedAre("fork", x, 0, 1, 3);
            x.fork(0, 0, 2, 2);
            reachedAre("fork to the same", x, 0, 2);
            x.stop(0);
            reachedAre("stop again", x, 0);
        });
        sentence("b is a FORERUNNER of its followers.", () -> {
            OnceNamed x = numbered(5);
            x.fork(0, 0, 1, 2);
            x.go(1, 3);
            x.fork(2, 0, 3, 3);
            x.fork(3, 0, 3, 4);
            x.build();
            int[] want = {-1, 104, 106, 109, -1, -1};
            for (int p = 0; p <= 5; p++) {
                int from = p;
                due("forerunner " + p + " of 3", want[p], () -> x.source(3, 1, from));
            }
        });
        sentence("In front of block 0 there is the ENTRY, whose only follower is block 0,", () -> {
            OnceNamed x = everywhere(4);
            x.build();
            due("parent of 0", 4, () -> x.parent(0));
            due("from the entry to 0", 500, () -> x.source(0, 5, 4));
            for (int b = 1; b < 4; b++) {
                int to = b;
                due("meeting in " + b, 1, () -> x.meeting(to, 5) > 500 ? 1 : 0);
                due("from the entry to " + b, -1, () -> x.source(to, 5, 4));
                due("parent of " + b, b - 1, () -> x.parent(to));
            }
        });
        sentence("and in which every variable is set to its START (at first 0).", () -> {
            OnceNamed x = new OnceNamed(1);
            for (int v = 0; v < 6; v++) {
                x.step(0, SAY, 0, v, 0);
            }
            allSay("at first", x, 0, 0, 0, 0, 0, 0);
            int[] starts = {MIN, -1000, -1, 1, 1000, MAX};
            for (int v = 0; v < 6; v++) {
                x.start(v, starts[v]);
            }
            allSay("set", x, starts);
        });
        sentence("A block is REACHED if it can be come to from the entry.", () -> {
            OnceNamed x = new OnceNamed(12);
            for (int b = 11; b > 0; b--) {
                x.go(b == 11 ? 0 : b + 1, b);
            }
            reachedAre("a row of all", x, 0, 1, 2, 3, 4, 5, 6, 7, 8, 9, 10, 11);
            x.stop(6);
            reachedAre("cut in two", x, 0, 6, 7, 8, 9, 10, 11);
            x.go(1, 5);
            reachedAre("a ring apart from it", x, 0, 6, 7, 8, 9, 10, 11);
            x.fork(6, 0, 7, 5);
            reachedAre("by one way of a fork", x, 0, 1, 2, 3, 4, 5, 6, 7, 8, 9, 10, 11);
            x.stop(0);
            reachedAre("0 alone", x, 0);
        });
        sentence("All that follows is about blocks that are reached (and the entry).",
                TermsTest::notReached);
    }

    private static void graphs() {
        sentence("b DOMINATES c if every way from the entry to c goes through b", () -> {
            OnceNamed x = new OnceNamed(5);
            x.fork(0, 0, 1, 2);
            x.go(1, 3);
            x.go(2, 3);
            x.go(3, 4);
            belowIs(x, 0, 0, 1, 2, 3, 4);
            belowIs(x, 1, 1);
            belowIs(x, 2, 2);
            belowIs(x, 3, 3, 4);
            x.stop(2);
            belowIs(x, 1, 1, 3, 4);
            x.go(4, 1);
            belowIs(x, 1, 1, 3, 4);
            x.fork(2, 0, 4, 4);
            belowIs(x, 1, 1, 3);
            belowIs(x, 3, 3);
            belowIs(x, 4, 4);
        });
        sentence("(so b dominates itself)", () -> {
            OnceNamed x = everywhere(12);
            for (int b = 0; b < 12; b++) {
                due(b + " dominates itself", true, x.dominates(b, b));
            }
            OnceNamed y = new OnceNamed(1);
            due("0 alone", true, y.dominates(0, 0));
        });
        sentence("; STRICTLY if they are not the same.", () -> {
            OnceNamed x = new OnceNamed(2);
            x.go(0, 1);
            x.go(1, 1);
            due("itself is no parent", 0, () -> x.parent(1));
            due("in its own frontier, as it is not strictly", true, x.frontier(1, 1));
            due("0 does so strictly", false, x.frontier(0, 1));
        });
        sentence("The nearest of those that strictly dominate c is its PARENT.", () -> {
            OnceNamed x = new OnceNamed(12);
            for (int b = 11; b > 0; b--) {
                x.go(b == 11 ? 0 : b + 1, b);
            }
            due("of 0", 12, () -> x.parent(0));
            for (int b = 1; b < 12; b++) {
                int c = b;
                due("of " + b, b == 11 ? 0 : b + 1, () -> x.parent(c));
            }
            x.fork(4, 0, 3, 1);
            due("past 3 and 2", 4, () -> x.parent(1));
            x.fork(11, 0, 10, 1);
            due("past all but 11", 11, () -> x.parent(1));
            x.fork(0, 0, 11, 1);
            due("past all", 0, () -> x.parent(1));
        });
        sentence("The FRONTIER of b are the blocks that b does not strictly dominate, "
                + "but of which b dominates a forerunner.", () -> {
                    OnceNamed x = new OnceNamed(6);
                    x.fork(0, 0, 1, 2);
                    x.go(1, 4);
                    x.fork(2, 0, 3, 5);
                    x.fork(3, 0, 2, 4);
                    x.fork(4, 0, 0, 5);
                    frontierIs(x, 0, 0);
                    frontierIs(x, 1, 4);
                    frontierIs(x, 2, 2, 4, 5);
                    frontierIs(x, 3, 2, 4);
                    frontierIs(x, 4, 0, 5);
                    frontierIs(x, 5);
                    x.stop(4);
                    frontierIs(x, 0);
                    frontierIs(x, 4);
                });
    }

    private static void names() {
        sentence("THE NAMED FORM. A variable MEETS in a block if that is in the frontier of a "
                + "block that sets it in a step,", () -> {
                    OnceNamed x = new OnceNamed(4);
                    x.fork(0, 0, 1, 2);
                    x.go(1, 3);
                    x.go(2, 3);
                    x.step(0, PUT, 4, 1, 0);
                    x.step(1, PUT, 1, 1, 0);
                    x.step(2, SUM, 2, 3, 3);
                    x.step(2, SAY, 3, 0, 0);
                    x.step(3, PUT, 5, 1, 0);
                    x.build();
                    meetAre(x, 0);
                    meetAre(x, 1);
                    meetAre(x, 2);
                    meetAre(x, 3, 1, 2);
                });
        sentence("or in which it meets.", () -> {
            // Each block that joins the row lies in the frontier of the one before it alone.
            OnceNamed x = new OnceNamed(12);
            x.fork(0, 5, 1, 2);
            for (int b = 2; b < 11; b += 2) {
                x.fork(b, 5, b + 1, Math.min(11, b + 2));
            }
            for (int b = 1; b < 11; b += 2) {
                x.go(b, b == 9 ? 11 : b + 2);
            }
            x.step(1, PUT, 0, 1, 0);
            x.build();
            due("set in 1 alone", -1, () -> x.meeting(1, 0));
            for (int b = 3; b <= 11; b += 2) {
                int at = b;
                due("meets in " + b, b == 3 ? 2 : (b + 1) / 2, () -> x.meeting(at, 0));
                due("not in " + (b - 1), -1, () -> x.meeting(at - 1, 0));
            }
        });
        sentence("Each setting gets a NAME of its own, 100 * variable + number;",
                TermsTest::namesOfTheirOwn);
        sentence("numbers of a variable are 0 for the entry, and then 1, 2, .. in this order: "
                + "blocks are gone through from the entry on, each one before those whose parent "
                + "it is,", () -> {
                    OnceNamed x = new OnceNamed(12);
                    x.step(0, SAY, 0, 3, 0);
                    for (int b = 0; b < 12; b++) {
                        x.step(b, PUT, 3, b, 0);
                    }
                    for (int b = 11; b > 0; b--) {
                        x.go(b == 11 ? 0 : b + 1, b);
                    }
                    due("names", 18, () -> x.build());
                    due("the entry's", 300, () -> x.use(0, 0, 0));
                    due("first", 301, () -> x.sets(0, 1));
                    for (int b = 11; b > 0; b--) {
                        int at = b;
                        due("block " + b, 313 - b, () -> x.sets(at, 0));
                    }
                });
        sentence("and these in the order of their numbers, each with all that it dominates "
                + "before the next one;", () -> {
                    OnceNamed x = new OnceNamed(7);
                    for (int b = 0; b < 7; b++) {
                        x.step(b, PUT, 0, b, 0);
                    }
                    x.fork(0, 5, 4, 1);
                    x.fork(1, 5, 6, 3);
                    x.fork(4, 5, 5, 2);
                    x.build();
                    int[] names = {1, 2, 6, 3, 5, 7, 4};
                    for (int b = 0; b < 7; b++) {
                        int at = b;
                        due("block " + b, names[b], () -> x.sets(at, 0));
                    }
                });
        sentence("in a block first the variables that meet in it get names (in their order), "
                + "then those that its steps set (in theirs).", () -> {
                    OnceNamed x = new OnceNamed(1);
                    x.step(0, PUT, 5, 1, 0);
                    x.step(0, PUT, 0, 1, 0);
                    x.step(0, SUM, 5, 5, 0);
                    x.step(0, COPY, 0, 5, 0);
                    x.go(0, 0);
                    due("names", 12, () -> x.build());
                    due("meeting of 0", 1, () -> x.meeting(0, 0));
                    due("meeting of 5", 501, () -> x.meeting(0, 5));
                    int[] names = {502, 2, 503, 3};
                    for (int k = 0; k < 4; k++) {
                        int step = k;
                        due("step " + k, names[k], () -> x.sets(0, step));
                    }
                });
        sentence("Each use of a variable in a step or an end is of the name that the variable got "
                + "last on the way from the entry down by parents: in this block before the "
                + "step, or else in its parent (all of it), or else in that one's parent, and so "
                + "on.", TermsTest::lastNames);
        sentence("A MEETING in a block has for each forerunner one use: of the name that the "
                + "variable got last at the end of that forerunner, found likewise.",
                TermsTest::meetingUses);
    }

    private static void propagated() {
        sentence("PROPAGATED: a name that a copy sets stands for the name that it uses "
                + "(or for what that stands for);", () -> {
                    OnceNamed x = copyRow();
                    due("copies", 12, () -> x.propagate());
                    due("the first of the row stands for the entry's name", 500,
                            () -> x.use(2, 0, 0));
                });
        sentence("every use of it becomes a use of what it stands for;", () -> {
            OnceNamed x = new OnceNamed(3);
            x.step(0, COPY, 0, 5, 0);
            x.fork(0, 0, 1, 2);
            x.step(1, SUM, 1, 0, 2);
            x.step(1, SUM, 1, 2, 0);
            x.step(1, SUM, 1, 0, 0);
            x.step(1, SAY, 0, 0, 0);
            x.step(1, PUT, 0, 1, 0);
            x.go(1, 2);
            x.step(2, COPY, 3, 0, 0);
            x.build();
            due("copies", 2, () -> x.propagate());
            due("of an end", 500, () -> x.use(0, -1, 0));
            due("for w", 500, () -> x.use(1, 0, 0));
            due("not another one's", 200, () -> x.use(1, 0, 1));
            due("not another one's", 200, () -> x.use(1, 1, 0));
            due("for x", 500, () -> x.use(1, 1, 1));
            due("for both", 500, () -> x.use(1, 2, 0));
            due("for both", 500, () -> x.use(1, 2, 1));
            due("of saying", 500, () -> x.use(1, 3, 0));
            due("of a meeting", 500, () -> x.source(2, 0, 0));
            due("not another one's", 2, () -> x.source(2, 0, 1));
        });
        sentence("the copies are GONE, and their names are none any more.", () -> {
            OnceNamed x = oneBlock(8, 9);
            x.step(0, COPY, 0, 1, 0);
            x.step(0, SAY, 0, 0, 0);
            x.build();
            fine("its name is one before", () -> x.alter(0, 1, 0, 1));
            x.propagate();
            due("sets none", -1, () -> x.sets(0, 0));
            due("uses none", -1, () -> x.use(0, 0, 0));
            thrown("its name is none", ILLEGAL, () -> x.alter(0, 1, 0, 1));
            fine("the entry's names are some", () -> x.alter(0, 1, 0, 0));
            says("it does nothing", x, 1, 8);
            says("it does nothing", x, 2, 8);
            fine("the steps keep their places", () -> x.alter(0, 1, 0, 100));
            says("it does nothing", x, 1, 9);
        });
    }

    private static void validity() {
        sentence("A form is VALID if for each use the name's setting comes before it: "
                + "it is the entry's;", () -> {
                    OnceNamed x = forValid();
                    for (int v = 0; v < 6; v++) {
                        altered(x, 0, 0, 0, 100 * v, true);
                        altered(x, 3, -1, 0, 100 * v, true);
                        turned(x, 1, 0, 0, 100 * v, true);
                        turned(x, 0, 0, 4, 100 * v, true);
                    }
                });
        sentence("or its block strictly dominates the using one;", () -> {
            OnceNamed x = forValid();
            int last = x.sets(1, 2);
            altered(x, 2, 0, 0, x.meeting(1, 0), true);
            altered(x, 2, 0, 0, last, true);
            altered(x, 3, 0, 1, last, true);
            altered(x, 3, -1, 0, last, true);
            altered(x, 0, 0, 0, last, false);
            altered(x, 0, -1, 0, last, false);
            altered(x, 2, 0, 0, x.sets(3, 0), false);
            altered(x, 3, 0, 0, x.sets(2, 0), false);
            altered(x, 3, 0, 0, x.sets(0, 0), true);
        });
        sentence("or it is the same block, and it is a meeting,", () -> {
            OnceNamed x = forValid();
            altered(x, 1, 0, 0, x.meeting(1, 0), true);
            altered(x, 1, 0, 0, x.meeting(1, 2), true);
            altered(x, 1, 2, 1, x.meeting(1, 1), true);
            altered(x, 1, -1, 0, x.meeting(1, 1), true);
        });
        sentence("or a step before the using step", () -> {
            OnceNamed x = forValid();
            int first = x.sets(1, 0);
            int second = x.sets(1, 1);
            int third = x.sets(1, 2);
            altered(x, 1, 0, 0, first, false);
            altered(x, 1, 0, 1, first, false);
            altered(x, 1, 1, 0, first, true);
            altered(x, 1, 1, 0, second, false);
            altered(x, 1, 1, 1, third, false);
            altered(x, 1, 2, 0, second, true);
            altered(x, 1, 2, 1, first, true);
            altered(x, 1, 2, 1, third, false);
        });
        sentence("(any step, for an end).", () -> {
            OnceNamed x = forValid();
            for (int k = 0; k < 3; k++) {
                altered(x, 1, -1, 0, x.sets(1, k), true);
            }
            OnceNamed y = new OnceNamed(1);
            for (int k = 0; k < 6; k++) {
                y.step(0, PUT, k, 1, 0);
            }
            y.fork(0, 0, 0, 0);
            y.build();
            altered(y, 0, -1, 0, y.sets(0, 5), true);
        });
        sentence("A meeting's use for a forerunner counts as one at that one's end.", () -> {
            OnceNamed x = forValid();
            turned(x, 1, 0, 0, x.sets(0, 0), true);
            turned(x, 1, 0, 0, x.meeting(1, 0), false);
            turned(x, 1, 0, 0, x.sets(1, 0), false);
            turned(x, 1, 0, 0, x.sets(2, 0), false);
            turned(x, 1, 0, 2, x.sets(2, 0), true);
            turned(x, 1, 0, 2, x.sets(1, 2), true);
            turned(x, 1, 0, 2, x.meeting(1, 1), true);
            turned(x, 1, 0, 2, x.sets(3, 0), false);
            turned(x, 0, 0, 3, x.sets(3, 0), true);
            turned(x, 0, 0, 3, x.sets(2, 0), false);
            turned(x, 0, 0, 4, x.meeting(0, 0), false);
            turned(x, 0, 0, 4, x.sets(0, 0), false);
            OnceNamed y = new OnceNamed(1);
            y.step(0, SUM, 0, 0, 1);
            y.step(0, PUT, 1, 1, 0);
            y.go(0, 0);
            y.build();
            turned(y, 0, 0, 0, y.meeting(0, 0), true);
            turned(y, 0, 0, 0, y.sets(0, 1), true);
            turned(y, 0, 0, 1, y.sets(0, 1), false);
        });
    }

    private static void running() {
        sentence("TO RUN: form 0 is the program itself.", () -> {
            OnceNamed x = oneBlock(4, 5);
            x.step(0, SAY, 0, 0, 0);
            says("without a form", x, 0, 4);
            x.build();
            x.alter(0, 0, 0, 100);
            says("whatever is altered", x, 0, 4);
            says("the form", x, 1, 5);
        });
        sentence("Form 1 is the named form: when a block is come to, all its meetings are set at "
                + "once by their uses for the block from which it was come", () -> {
                    OnceNamed x = swap(3);
                    says("each uses what the other was", x, 1, 7, 8, 8, 7, 7, 8);
                    x.turn(1, 1, 2, x.meeting(1, 1));
                    says("one stays", x, 1, 7, 8, 8, 8, 8, 8);
                    x.turn(1, 0, 0, 300);
                    says("by where it was come from", x, 1, 9, 8, 8, 8, 8, 8);
                });
        sentence("(the entry for the first time);", () -> {
            OnceNamed x = new OnceNamed(2);
            x.start(0, 3);
            x.start(1, 1);
            x.start(2, 2);
            x.step(0, SAY, 0, 0, 0);
            x.step(0, DIFFERENCE, 0, 0, 1);
            x.fork(0, 0, 0, 1);
            allSay("come to from itself later", x, 3, 2, 1);
            x.turn(0, 0, 2, 200);
            says("the entry's use", x, 1, 2, 1);
            says("the entry's use", x, 2, 2, 1);
        });
        sentence("names that were never set are 0.", () -> {
            OnceNamed x = new OnceNamed(3);
            x.start(0, 1);
            x.fork(0, 0, 1, 2);
            x.step(1, PUT, 1, 5, 0);
            x.step(1, SAY, 0, 1, 0);
            x.step(2, SAY, 0, 1, 0);
            x.build();
            x.alter(2, 0, 0, x.sets(1, 0));
            says("set", x, 1, 5);
            x.alter(0, -1, 0, 400);
            says("never set", x, 1, 0);
            says("never set", x, 2, 0);
            OnceNamed y = swap(1);
            y.turn(1, 0, 0, y.sets(2, 2));
            y.turn(1, 1, 0, y.meeting(1, 0));
            says("nor when a meeting uses it", y, 1, 0, 0);
            says("nor when a meeting uses it", y, 2, 0, 0);
        });
        sentence("Form 2 is the same, but the meetings of a block are set by COPIES of one name "
                + "into another, one after the other.", TermsTest::byCopies);
        sentence("SAID is a list of numbers.", () -> {
            OnceNamed x = oneBlock(MIN, 0, MAX);
            x.step(0, SAY, 0, 2, 0);
            x.step(0, SAY, 0, 0, 0);
            x.step(0, SAY, 0, 2, 0);
            x.step(0, SAY, 0, 1, 0);
            allSay("in their order, also the same again", x, MAX, MIN, MAX, 0);
        });
        sentence("It FAILS by ZERO if a quotient by 0 is wanted,", TermsTest::byZero);
        sentence("by LIMIT if blocks (counted together, block 0 at the beginning, too) would be "
                + "come to for the 101st time in all,", TermsTest::blocksComeTo);
        sentence("or something be said for the 51st time.", TermsTest::said51);
    }

    private static void throwing() {
        sentence("What is thrown: the first of those listed in the heading that holds;",
                TermsTest::firstHeld);
        sentence("nothing is changed then, but for run.", () -> {
            OnceNamed x = oneBlock(4, 0);
            x.step(0, SAY, 0, 0, 0);
            says("before", x, 0, 4);
            x.start(0, 5);
            x.step(0, QUOTIENT, 0, 0, 1);
            fails("run changes what is said", ZERO, x, 0, 5);
            for (int state = 0; state < World.STATES; state++) {
                for (World.Wrong wrong : World.wrongCalls(state)) {
                    World.refused(state, wrong);
                }
            }
        });
        sentence("\"No form\": there is no named form;", () -> {
            World.noFormIn("a new object", new OnceNamed(3));
            OnceNamed x = World.in(World.PLAIN);
            World.noFormIn("not built", x);
            x.build();
            World.formIn("built", x);
        });
        sentence("step, go, fork, stop and start take it away", () ->
                takenAway(
                        x -> x.step(2, SAY, 0, 0, 0),
                        x -> x.go(2, 0),
                        x -> x.fork(2, 0, 0, 1),
                        x -> x.stop(1),
                        x -> x.start(5, 1)));
        sentence("(also if all is as before;", () ->
                takenAway(
                        x -> x.go(0, 1),
                        x -> x.fork(1, 0, 1, 2),
                        x -> x.stop(2),
                        x -> x.start(0, 2),
                        x -> x.start(5, 0)));
        sentence("not if they throw).", () ->
                leftAlone(
                        x -> thrown("step", ILLEGAL, () -> x.step(3, SAY, 0, 0, 0)),
                        x -> thrown("step", STATE, () -> x.step(1, SAY, 0, 0, 0)),
                        x -> thrown("go", ILLEGAL, () -> x.go(0, 3)),
                        x -> thrown("fork", ILLEGAL, () -> x.fork(1, 0, 1, 3)),
                        x -> thrown("stop", ILLEGAL, () -> x.stop(3)),
                        x -> thrown("start", ILLEGAL, () -> x.start(6, 0))));
    }

    // What it is

    private static void notPromised() {
        section("Not promised");
        sentence("How the state is held inside the object is free, as are the speed of each call, "
                + "the text of toString and the behaviour of equals and hashCode.", () -> {
                    for (Method m : OnceNamed.class.getDeclaredMethods()) {
                        boolean ofObject = Set.of("toString", "equals", "hashCode")
                                .contains(m.getName());
                        due(m.getName() + " is one of them", false, ofObject);
                    }
                });
        sentence("Use of one object from several threads at once is not promised to be safe.",
                TermsTest::sideBySide);
        sentence("Nothing is promised beyond the answers and state changes described above, and "
                + "nothing about an object after its 512th call.", () -> {
                    OnceNamed x = everywhere(12);
                    for (int call = 12 * 4; call < 512; call++) {
                        x.build();
                    }
                    fine("a later call comes to an end", () -> x.build());
                });
    }

    private static void wholeWay() {
        OnceNamed x = swap(2);
        due("dominates", true, x.dominates(1, 2));
        due("meets", 1, () -> x.meeting(1, 0));
        due("set in one place alone", 2, () -> x.sets(2, 1));
        due("copies gone", 3, () -> x.propagate());
        due("checked", true, x.valid());
        for (int form = 0; form <= 2; form++) {
            says("three ways", x, form, 7, 8, 8, 7);
        }
    }

    private static void call512() {
        OnceNamed x = everywhere(12);
        int before = 12 * 4;
        for (int call = before + 1; call < 512; call++) {
            x.build();
        }
        due("call 512", 6 + 3 * 12 + 3 * 12, () -> x.build());
    }

    /** One object in one thread, but another one may be at work there or in a second thread. */
    private static void sideBySide() {
        OnceNamed x = swap(2);
        OnceNamed y = swap(3);
        due("propagated", 3, () -> x.propagate());
        due("the other one's copies stay", 2, () -> y.sets(2, 1));
        due("run", 4, () -> x.run(2));
        due("the other one is run", 6, () -> y.run(1));
        saidIs("one", x, 7, 8, 8, 7);
        saidIs("the other one", y, 7, 8, 8, 7, 7, 8);
        Thread second = new Thread(() -> changeOften(y));
        second.start();
        for (int i = 0; i < 50; i++) {
            says("while the other one changes", x, 2, 7, 8, 8, 7);
        }
        try {
            second.join();
        } catch (InterruptedException e) {
            throw new IllegalStateException("the second thread did not end", e);
        }
    }

    private static void changeOften(OnceNamed y) {
        for (int i = 0; i < 200; i++) {
            y.start(0, i);
            y.build();
        }
    }

    // Programs

    /**
     * Each block leads to the one before it and the one after it, the first and the last one to
     * themselves; each sets variables 0, 1 and 5, so that all of these meet in each block.
     */
    private static OnceNamed everywhere(int n) {
        OnceNamed x = new OnceNamed(n);
        for (int b = 0; b < n; b++) {
            x.step(b, PUT, 0, 1, 0);
            x.step(b, PUT, 5, 1, 0);
            x.step(b, SUM, 1, 2, 3);
            x.fork(b, 0, Math.max(0, b - 1), Math.min(n - 1, b + 1));
        }
        return x;
    }

    private static void firstAndLastBlock() {
        At[] calls = {
            (x, b) -> x.step(b, SAY, 0, 0, 0),
            (x, b) -> x.go(b, 0),
            (x, b) -> x.go(0, b),
            (x, b) -> x.fork(b, 0, 0, 0),
            (x, b) -> x.fork(0, 0, b, 0),
            (x, b) -> x.fork(0, 0, 0, b),
            (x, b) -> x.stop(b),
            (x, b) -> x.parent(b),
            (x, b) -> x.dominates(b, 0),
            (x, b) -> x.dominates(0, b),
            (x, b) -> x.frontier(b, 0),
            (x, b) -> x.frontier(0, b),
            (x, b) -> x.meeting(b, 0),
            (x, b) -> x.source(b, 0, 0),
            (x, b) -> x.sets(b, 0),
            (x, b) -> x.use(b, 0, 0),
            (x, b) -> x.use(b, -1, 0),
            (x, b) -> x.alter(b, -1, 0, 0),
            (x, b) -> x.turn(b, 0, Math.max(0, b), 0),
            (x, b) -> x.copies(b, 0)
        };
        int[] sizes = {1, 2, 11, 12};
        for (int n : sizes) {
            for (int i = 0; i < calls.length; i++) {
                inOrder("call " + i + " in " + n + " blocks", calls[i], n, 0, n - 1);
                beyond("call " + i + " in " + n + " blocks", calls[i], n, -1, n, MIN, MAX);
            }
        }
    }

    private static void firstAndLastVariable() {
        At[] calls = {
            (x, v) -> x.step(0, PUT, v, 0, 0),
            (x, v) -> x.step(0, COPY, v, 0, 0),
            (x, v) -> x.step(0, COPY, 0, v, 0),
            (x, v) -> x.step(0, SUM, v, 0, 0),
            (x, v) -> x.step(0, DIFFERENCE, 0, v, 0),
            (x, v) -> x.step(0, LESS, 0, 0, v),
            (x, v) -> x.step(0, SAY, 0, v, 0),
            (x, v) -> x.fork(0, v, 0, 0),
            (x, v) -> x.start(v, 0),
            (x, v) -> x.meeting(0, v),
            (x, v) -> x.source(0, v, 0),
            (x, v) -> x.turn(0, v, 0, 0)
        };
        for (int i = 0; i < calls.length; i++) {
            inOrder("variable in call " + i, calls[i], 2, 0, 5);
            beyond("variable in call " + i, calls[i], 2, -1, 6, MIN, MAX);
        }
    }

    private static void inOrder(String what, At call, int n, int... values) {
        for (int a : values) {
            OnceNamed x = everywhere(n);
            x.build();
            fine(what + " with " + a, () -> call.make(x, a));
        }
    }

    private static void beyond(String what, At call, int n, int... values) {
        for (int a : values) {
            OnceNamed x = everywhere(n);
            x.build();
            thrown(what + " with " + a, ILLEGAL, () -> call.make(x, a));
        }
    }

    private static void sixSteps() {
        OnceNamed x = new OnceNamed(12);
        for (int b = 0; b < 12; b++) {
            int at = b;
            for (int k = 1; k <= 6; k++) {
                due("step " + k + " of " + b, k, () -> x.step(at, SAY, 0, 0, 0));
            }
            thrown("step 7 of " + b, STATE, () -> x.step(at, SAY, 0, 0, 0));
        }
        for (int kind = PUT; kind <= SAY; kind++) {
            int k = kind;
            thrown("step 7 of kind " + k, STATE, () -> x.step(0, k, 0, 0, 0));
        }
        allSay("all six", x, 0, 0, 0, 0, 0, 0);
    }

    private static void stepsInOrder() {
        OnceNamed x = new OnceNamed(3);
        x.step(0, SAY, 0, 0, 0);
        x.step(0, PUT, 0, 5, 0);
        x.step(0, SAY, 0, 0, 0);
        x.step(0, PRODUCT, 0, 0, 0);
        x.step(0, SAY, 0, 0, 0);
        x.step(0, PUT, 0, 0, 0);
        x.fork(0, 0, 1, 2);
        x.step(1, PUT, 1, 1, 0);
        x.step(1, SAY, 0, 1, 0);
        x.step(2, PUT, 1, 2, 0);
        x.step(2, SAY, 0, 1, 0);
        allSay("one after the other, the end last", x, 0, 5, 25, 2);
    }

    private static void put() {
        int[] inOrder = {-999, -998, -1, 0, 1, 998, 999};
        for (int number : inOrder) {
            OnceNamed x = oneBlock(3);
            due("put " + number, 1, () -> x.step(0, PUT, 0, number, 0));
            x.step(0, SAY, 0, 0, 0);
            allSay("put " + number, x, number);
        }
        int[] beyond = {-1000, 1000, MIN, MAX};
        for (int number : beyond) {
            OnceNamed x = oneBlock(3);
            thrown("put " + number, ILLEGAL, () -> x.step(0, PUT, 0, number, 0));
            x.step(0, SAY, 0, 0, 0);
            allSay("not put " + number, x, 3);
        }
    }

    private static void copy() {
        int[] values = {MIN, -1000, 0, 1000, MAX};
        for (int value : values) {
            OnceNamed x = oneBlock(7, 1, 2, 3, 4, value);
            x.step(0, COPY, 0, 5, 1);
            x.step(0, SAY, 0, 0, 0);
            x.step(0, SAY, 0, 5, 0);
            allSay("copied", x, value, value);
        }
        OnceNamed y = oneBlock(7);
        y.step(0, COPY, 0, 0, 0);
        y.step(0, SAY, 0, 0, 0);
        allSay("copied into itself", y, 7);
    }

    private static void reckons(int kind, int w, int x, int want) {
        OnceNamed o = oneBlock(9, 9, w, x);
        o.step(0, kind, 1, 2, 3);
        o.step(0, SAY, 0, 1, 0);
        allSay("kind " + kind + " of " + w + " and " + x, o, want);
    }

    private static void threeVariables() {
        OnceNamed x = oneBlock(20, 5);
        x.step(0, DIFFERENCE, 2, 0, 1);
        x.step(0, SAY, 0, 0, 0);
        x.step(0, SAY, 0, 1, 0);
        x.step(0, SAY, 0, 2, 0);
        allSay("w and x stay", x, 20, 5, 15);
        OnceNamed y = oneBlock(20, 5);
        y.step(0, DIFFERENCE, 1, 0, 1);
        y.step(0, SAY, 0, 1, 0);
        y.step(0, DIFFERENCE, 1, 1, 1);
        y.step(0, SAY, 0, 1, 0);
        allSay("v may be w or x", y, 15, 0);
    }

    // Ends

    /** Each block says its number. */
    private static OnceNamed numbered(int n) {
        OnceNamed x = new OnceNamed(n);
        for (int b = 0; b < n; b++) {
            x.step(b, PUT, 1, b, 0);
            x.step(b, SAY, 0, 1, 0);
            x.step(b, COPY, 1, 0, 0);
        }
        return x;
    }

    private static void forks(int value, int to) {
        OnceNamed x = numbered(3);
        x.fork(0, 5, 1, 2);
        x.start(5, value);
        allSay("fork by " + value, x, 0, to);
    }

    private static void forksToTheSame(int value) {
        OnceNamed x = numbered(3);
        x.fork(0, 5, 2, 2);
        x.start(5, value);
        allSay("fork to the same by " + value, x, 0, 2);
        due("its use", 500, () -> x.use(0, -1, 0));
        due("parent", 0, () -> x.parent(2));
    }

    private static void reachedAre(String what, OnceNamed x, int... want) {
        StringBuilder got = new StringBuilder();
        for (int b = 0; isBlock(x, b); b++) {
            if (x.parent(b) != -1) {
                got.append(' ').append(b);
            }
        }
        dueText(what, row(want), got.toString());
    }

    private static boolean isBlock(OnceNamed x, int b) {
        try {
            x.parent(b);
            return true;
        } catch (IllegalArgumentException e) {
            return false;
        }
    }

    private static String row(int... blocks) {
        StringBuilder text = new StringBuilder();
        for (int b : blocks) {
            text.append(' ').append(b);
        }
        return text.toString();
    }

    /** 2 and 3 lead to one another and to 1, but nothing that is reached leads to them. */
    private static void notReached() {
        OnceNamed x = new OnceNamed(4);
        x.go(0, 1);
        x.fork(2, 0, 1, 3);
        x.fork(3, 0, 2, 1);
        x.step(2, PUT, 0, 1, 0);
        x.step(3, COPY, 0, 1, 0);
        x.step(1, SAY, 0, 0, 0);
        due("parent", -1, () -> x.parent(2));
        due("parent", -1, () -> x.parent(3));
        due("parent, in spite of ways from there", 0, () -> x.parent(1));
        due("dominates, in spite of ways from there", true, x.dominates(0, 1));
        due("itself", false, x.dominates(2, 2));
        due("another", false, x.dominates(2, 3));
        due("a reached one", false, x.dominates(2, 1));
        due("by a reached one", false, x.dominates(0, 2));
        due("frontier", false, x.frontier(2, 1));
        due("frontier", false, x.frontier(2, 2));
        due("frontier", false, x.frontier(0, 2));
        due("names", 6, () -> x.build());
        for (int b = 1; b < 4; b++) {
            int at = b;
            due("no meeting in " + b, -1, () -> x.meeting(at, 0));
            due("no copies in " + b, 0, () -> x.copies(at, 2));
        }
        due("the entry's name", 0, () -> x.use(1, 0, 0));
        due("valid", true, x.valid());
        due("copies gone", 0, () -> x.propagate());
    }

    // Graphs

    private static void belowIs(OnceNamed x, int b, int... want) {
        StringBuilder got = new StringBuilder();
        for (int c = 0; isBlock(x, c); c++) {
            if (x.dominates(b, c)) {
                got.append(' ').append(c);
            }
        }
        dueText(b + " dominates", row(want), got.toString());
    }

    private static void frontierIs(OnceNamed x, int b, int... want) {
        StringBuilder got = new StringBuilder();
        for (int c = 0; isBlock(x, c); c++) {
            if (x.frontier(b, c)) {
                got.append(' ').append(c);
            }
        }
        dueText("frontier of " + b, row(want), got.toString());
    }

    // Names

    private static void meetAre(OnceNamed x, int b, int... want) {
        StringBuilder got = new StringBuilder();
        for (int v = 0; v < 6; v++) {
            if (x.meeting(b, v) != -1) {
                got.append(' ').append(v);
            }
        }
        dueText("what meets in " + b, row(want), got.toString());
    }

    /** 12 blocks with 6 settings of one variable each, and a meeting of it in each. */
    private static void namesOfTheirOwn() {
        for (int v = 0; v < 6; v += 5) {
            OnceNamed x = new OnceNamed(12);
            for (int b = 0; b < 12; b++) {
                for (int k = 0; k < 6; k++) {
                    x.step(b, PUT, v, k, 0);
                }
                x.fork(b, v, Math.max(0, b - 1), Math.min(11, b + 1));
            }
            int variable = v;
            due("names", 6 + 7 * 12, () -> x.build());
            Set<Integer> seen = new TreeSet<>();
            for (int b = 0; b < 12; b++) {
                seen.add(x.meeting(b, v));
                for (int k = 0; k < 6; k++) {
                    seen.add(x.sets(b, k));
                }
            }
            due("each its own", 84, () -> seen.size());
            for (int number = 1; number <= 84; number++) {
                due("number " + number, true, seen.contains(100 * v + number));
            }
            fine("the last one is a name", () -> x.alter(0, -1, 0, 100 * variable + 84));
            thrown("the next one is none", ILLEGAL,
                    () -> x.alter(0, -1, 0, 100 * variable + 85));
        }
    }

    /** A row of four blocks; 4 lies beside 2, and 3 below 2. */
    private static void lastNames() {
        OnceNamed x = new OnceNamed(5);
        x.step(0, SUM, 0, 0, 1);
        x.step(0, PUT, 1, 1, 0);
        x.go(0, 1);
        x.step(1, SAY, 0, 0, 0);
        x.step(1, PUT, 0, 1, 0);
        x.step(1, SUM, 0, 0, 0);
        x.step(1, SAY, 0, 0, 0);
        x.step(1, PUT, 2, 1, 0);
        x.fork(1, 0, 2, 4);
        x.step(2, SAY, 0, 0, 0);
        x.fork(2, 2, 3, 3);
        x.step(3, SUM, 5, 0, 1);
        x.step(3, SUM, 5, 2, 3);
        x.step(4, SAY, 0, 0, 0);
        x.step(4, PUT, 0, 4, 0);
        x.fork(4, 0, 4, 4);
        x.build();
        due("the entry's, not the step's own", 0, () -> x.use(0, 0, 0));
        due("the entry's, not a later step's", 100, () -> x.use(0, 0, 1));
        due("the parent's", 1, () -> x.use(1, 0, 0));
        due("of the step before", 2, () -> x.use(1, 2, 0));
        due("of the step before", 2, () -> x.use(1, 2, 1));
        due("the last before it", 3, () -> x.use(1, 3, 0));
        due("the last for the end", 3, () -> x.use(1, -1, 0));
        due("all of the parent", 3, () -> x.use(2, 0, 0));
        due("all of the parent", 201, () -> x.use(2, -1, 0));
        due("the parent's parent's", 3, () -> x.use(3, 0, 0));
        due("and so on", 101, () -> x.use(3, 0, 1));
        due("the parent's parent's", 201, () -> x.use(3, 1, 0));
        due("up to the entry", 300, () -> x.use(3, 1, 1));
        due("by the meeting in it", x.meeting(4, 0), () -> x.use(4, 0, 0));
        due("of the step after the meeting", x.sets(4, 1), () -> x.use(4, -1, 0));
        due("the meeting is one", 4, () -> x.meeting(4, 0));
    }

    private static void meetingUses() {
        OnceNamed x = new OnceNamed(6);
        x.step(0, PUT, 0, 1, 0);
        x.fork(0, 5, 1, 2);
        x.step(1, PUT, 0, 1, 0);
        x.step(1, PUT, 0, 2, 0);
        x.go(1, 4);
        x.go(2, 3);
        x.fork(3, 5, 4, 4);
        x.fork(4, 5, 4, 5);
        x.build();
        int meeting = x.meeting(4, 0);
        due("the last at the end", 3, () -> x.source(4, 0, 1));
        due("found by parents", 1, () -> x.source(4, 0, 3));
        due("of itself", meeting, () -> x.source(4, 0, 4));
        due("no use for one that leads to a forerunner", -1, () -> x.source(4, 0, 2));
        due("no use for a follower", -1, () -> x.source(4, 0, 5));
        due("no use for the entry", -1, () -> x.source(4, 0, 6));
        x.turn(4, 0, 3, 500);
        due("one use for one that leads there twice", 500, () -> x.source(4, 0, 3));
        due("the others are others", 3, () -> x.source(4, 0, 1));
        OnceNamed y = new OnceNamed(1);
        y.step(0, PUT, 0, 1, 0);
        y.step(0, PUT, 0, 2, 0);
        y.go(0, 0);
        y.build();
        due("of the entry", 0, () -> y.source(0, 0, 1));
        due("of its last step", 3, () -> y.source(0, 0, 0));
    }

    /** Twelve copies, each of the one before; the last one is in another block, which says it. */
    private static OnceNamed copyRow() {
        OnceNamed x = new OnceNamed(3);
        x.start(5, 55);
        for (int k = 0; k < 12; k++) {
            x.step(k / 6, COPY, k % 5, k == 0 ? 5 : (k - 1) % 5, 0);
        }
        x.go(0, 1);
        x.go(1, 2);
        x.step(2, SAY, 0, 1, 0);
        x.build();
        return x;
    }

    // Validity

    /**
     * A ring of 1 and 2 within a ring of all but the last, each block with steps that set and use
     * names: 0 to 1, 1 to 2 or 3, 2 to 1, 3 to 0.
     */
    private static OnceNamed forValid() {
        OnceNamed x = new OnceNamed(4);
        x.step(0, SUM, 3, 3, 4);
        x.fork(0, 0, 1, 1);
        x.step(1, SUM, 0, 0, 1);
        x.step(1, SUM, 1, 0, 1);
        x.step(1, SUM, 2, 0, 1);
        x.fork(1, 0, 2, 3);
        x.step(2, SUM, 4, 0, 1);
        x.go(2, 1);
        x.step(3, SUM, 5, 0, 1);
        x.fork(3, 5, 0, 0);
        x.build();
        return x;
    }

    private static void altered(OnceNamed x, int b, int k, int which, int name, boolean valid) {
        int old = x.use(b, k, which);
        x.alter(b, k, which, name);
        due("with " + name + " in step " + k + " of " + b, valid, x.valid());
        x.alter(b, k, which, old);
        due("as before", true, x.valid());
    }

    private static void turned(OnceNamed x, int b, int v, int p, int name, boolean valid) {
        int old = x.source(b, v, p);
        x.turn(b, v, p, name);
        due("with " + name + " from " + p + " to " + b, valid, x.valid());
        x.turn(b, v, p, old);
        due("as before", true, x.valid());
    }

    // Running

    /** Block 1 says 0 and 1, as often as is asked; 2 swaps them by way of 2. */
    private static OnceNamed swap(int times) {
        OnceNamed x = new OnceNamed(4);
        x.start(0, 7);
        x.start(1, 8);
        x.start(3, 9);
        x.start(4, times);
        x.step(0, PUT, 5, 1, 0);
        x.go(0, 1);
        x.step(1, SAY, 0, 0, 0);
        x.step(1, SAY, 0, 1, 0);
        x.step(1, DIFFERENCE, 4, 4, 5);
        x.fork(1, 4, 2, 3);
        x.step(2, COPY, 2, 0, 0);
        x.step(2, COPY, 0, 1, 0);
        x.step(2, COPY, 1, 2, 0);
        x.go(2, 1);
        x.build();
        if (times > 0) {
            x.turn(1, 0, 2, x.meeting(1, 1));
            x.turn(1, 1, 2, x.meeting(1, 0));
        }
        return x;
    }

    private static void byCopies() {
        OnceNamed x = swap(3);
        says("a swap", x, 2, 7, 8, 8, 7, 7, 8);
        x.turn(1, 2, 2, 200);
        says("a swap through the place besides", x, 2, 7, 8, 8, 7, 7, 8);
        x.turn(1, 2, 2, x.meeting(1, 0));
        says("a swap and one that uses it", x, 2, 7, 8, 8, 7, 7, 8);
        x.turn(1, 1, 2, x.meeting(1, 2));
        x.turn(1, 2, 0, 300);
        says("a ring of three", x, 2, 7, 8, 8, 9, 9, 7);
        says("as at once", x, 1, 7, 8, 8, 9, 9, 7);
        x.turn(1, 1, 2, x.meeting(1, 1));
        says("one that stays", x, 2, 7, 8, 8, 8, 8, 8);
        x.turn(1, 0, 2, x.meeting(1, 2));
        x.turn(1, 2, 2, 300);
        says("a row", x, 2, 7, 8, 9, 8, 9, 8);
        x.turn(1, 0, 0, 300);
        x.turn(1, 1, 0, 300);
        says("one name for more than one", x, 2, 9, 9, 9, 9, 9, 9);
    }

    private static void byZero() {
        int[] dividends = {0, 1, MIN};
        for (int w : dividends) {
            OnceNamed x = oneBlock(w, 0, 3);
            x.step(0, SAY, 0, 2, 0);
            x.step(0, QUOTIENT, 2, 0, 1);
            x.step(0, SAY, 0, 2, 0);
            allFail(w + " by 0", ZERO, x, 3);
            x.start(1, 1);
            allSay(w + " by 1", x, 3, w);
            x.start(1, -1);
            allSay(w + " by -1", x, 3, -w);
        }
        OnceNamed y = new OnceNamed(3);
        y.start(0, 1);
        y.fork(0, 0, 1, 2);
        y.step(2, QUOTIENT, 3, 0, 5);
        allSay("in a block that is not come to", y);
        y.start(0, 0);
        allFail("in a block that is come to", ZERO, y);
    }

    /** Blocks 0 and 1 by turns, as often as tells, and then some in a row. */
    private static OnceNamed byTurns(int rounds, int row) {
        OnceNamed x = new OnceNamed(12);
        x.start(0, rounds);
        x.start(1, 1);
        x.go(0, 1);
        x.step(1, DIFFERENCE, 0, 0, 1);
        x.fork(1, 0, 0, 2);
        for (int b = 2; b < row + 1; b++) {
            x.go(b, b + 1);
        }
        x.step(row + 1, SAY, 0, 1, 0);
        return x;
    }

    private static void blocksComeTo() {
        allSay("99 in all", byTurns(49, 1), 1);
        allSay("100 in all", byTurns(49, 2), 1);
        allFail("101 in all", STATE, byTurns(49, 3));
        allSay("100 in all", byTurns(45, 10), 1);
        allFail("101 in all", STATE, byTurns(50, 1));
        OnceNamed x = new OnceNamed(2);
        x.start(0, 99);
        x.start(1, 1);
        x.step(0, DIFFERENCE, 0, 0, 1);
        x.fork(0, 0, 0, 1);
        allSay("99 times 0, and 1", x);
        x.start(0, 100);
        allFail("100 times 0, and 1", STATE, x);
        OnceNamed y = oneBlock();
        y.step(0, SUM, 0, 0, 1);
        y.go(0, 0);
        allFail("without end", STATE, y);
    }

    /** Block 0 says variable 0 twice, as often as tells; then 1 says as much as is asked. */
    private static OnceNamed saying(int rounds, int more) {
        OnceNamed x = new OnceNamed(2);
        x.start(0, rounds);
        x.start(1, 1);
        x.step(0, SAY, 0, 0, 0);
        x.step(0, SAY, 0, 0, 0);
        x.step(0, DIFFERENCE, 0, 0, 1);
        x.fork(0, 0, 0, 1);
        for (int i = 0; i < more; i++) {
            x.step(1, SAY, 0, 1, 0);
        }
        return x;
    }

    private static void said51() {
        int[] fifty = new int[50];
        for (int i = 0; i < 50; i++) {
            fifty[i] = 25 - i / 2;
        }
        int[] after24 = new int[50];
        for (int i = 0; i < 50; i++) {
            after24[i] = i < 48 ? 24 - i / 2 : 1;
        }
        int[] fortyNine = Arrays.copyOf(after24, 49);
        allSay("49 times", saying(24, 1), fortyNine);
        allSay("50 times", saying(24, 2), after24);
        allFail("51 times", STATE, saying(24, 3), after24);
        allSay("50 times", saying(25, 0), fifty);
        allFail("51 times", STATE, saying(25, 1), fifty);
    }

    // What is thrown

    private static void firstHeld() {
        OnceNamed full = World.in(World.PLAIN);
        thrown("a full block, and no such kind", ILLEGAL, () -> full.step(1, 8, 0, 0, 0));
        thrown("a full block, and no such variable", ILLEGAL, () -> full.step(1, SUM, 0, 0, 6));
        thrown("a full block, and out of range", ILLEGAL, () -> full.step(1, PUT, 0, 1000, 0));
        thrown("a full block alone", STATE, () -> full.step(1, PUT, 0, 999, 0));
        thrown("no form, and no such block", UNSUPPORTED, () -> full.meeting(3, 0));
        thrown("no form, and no such variable", UNSUPPORTED, () -> full.meeting(0, 6));
        thrown("no form, and no such block", UNSUPPORTED, () -> full.source(3, 0, 0));
        thrown("no form, and p is wrong", UNSUPPORTED, () -> full.source(0, 0, 4));
        thrown("no form, and no such block", UNSUPPORTED, () -> full.sets(3, 0));
        thrown("no form, and no such step", UNSUPPORTED, () -> full.sets(0, 6));
        thrown("no form, and no such block", UNSUPPORTED, () -> full.use(3, 0, 0));
        thrown("no form, and which is wrong", UNSUPPORTED, () -> full.use(1, 0, 2));
        thrown("no form, and no such block", UNSUPPORTED, () -> full.alter(3, 0, 0, 0));
        thrown("no form, and no such name", UNSUPPORTED, () -> full.alter(1, 0, 0, 600));
        thrown("no form, and no such block", UNSUPPORTED, () -> full.turn(3, 0, 0, 0));
        thrown("no form, and no such name", UNSUPPORTED, () -> full.turn(1, 0, 0, 600));
        thrown("no form, and no such block", UNSUPPORTED, () -> full.copies(3, 0));
        thrown("no form, and p is wrong", UNSUPPORTED, () -> full.copies(0, 4));
        thrown("no such form to run, and no form", ILLEGAL, () -> full.run(3));
        thrown("no such form to run, and no form", ILLEGAL, () -> full.run(-1));
        thrown("no such form, and no form", ILLEGAL, () -> full.same(3));
        thrown("no such form, and no form", ILLEGAL, () -> full.same(-1));
        OnceNamed fails = oneBlock();
        fails.step(0, QUOTIENT, 0, 0, 0);
        fails.go(0, 0);
        thrown("no form, and zero", UNSUPPORTED, () -> fails.run(1));
        thrown("no such form to run, and zero", ILLEGAL, () -> fails.run(3));
        thrown("zero, and the limit after it", ZERO, () -> fails.run(0));
        OnceNamed invalid = World.in(World.ALTERED);
        thrown("not valid", STATE, () -> invalid.propagate());
        invalid.stop(2);
        thrown("no form, that was not valid", UNSUPPORTED, () -> invalid.propagate());
    }

    private static void takenAway(World.On... calls) {
        for (int i = 0; i < calls.length; i++) {
            for (int state = World.FORMED; state < World.STATES; state++) {
                OnceNamed x = World.in(state);
                World.formIn("before call " + i + " in state " + state, x);
                calls[i].make(x);
                World.noFormIn("after call " + i + " in state " + state, x);
                x.build();
                World.formIn("built again after call " + i + " in state " + state, x);
            }
        }
    }

    private static void leftAlone(World.On... calls) {
        for (World.On call : calls) {
            for (int state = World.FORMED; state < World.STATES; state++) {
                OnceNamed x = World.in(state);
                call.make(x);
                World.formIn("after it in state " + state, x);
            }
        }
    }
}
