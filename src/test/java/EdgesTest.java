import java.util.Arrays;

/** Promises 1 to 22, each sentence at the last value that is in order and the first beyond. */
public final class EdgesTest extends Sentences {
    private static final int[] NO_BLOCK_OF_5 = {-1, 5, MIN, MAX};
    private static final int[] NO_VARIABLE = {-1, 6, MIN, MAX};

    public static void main(String[] args) {
        newObject();
        step();
        go();
        fork();
        stop();
        start();
        build();
        propagate();
        parent();
        dominates();
        frontier();
        meeting();
        source();
        sets();
        use();
        alter();
        turn();
        valid();
        copies();
        run();
        said();
        same();
        sectionsAre("Promise \\d.*");
        end();
    }

    private static void newObject() {
        section("Promise 1: A new object");
        sentence("n blocks (but at least 1 and at most 12)", () -> {
            int[] asked = {MIN, -1, 0, 1, 2, 11, 12, 13, MAX};
            int[] blocks = {1, 1, 1, 1, 2, 11, 12, 12, 12};
            for (int i = 0; i < asked.length; i++) {
                OnceNamed x = new OnceNamed(asked[i]);
                int n = blocks[i];
                fine("the last block of " + asked[i], () -> x.stop(n - 1));
                thrown("one beyond, of " + asked[i], ILLEGAL, () -> x.stop(n));
                due("the entry of " + asked[i], n, () -> x.parent(0));
            }
        });
        sentence("without steps", () -> {
            OnceNamed x = new OnceNamed(12);
            x.build();
            for (int b = 0; b < 12; b++) {
                int at = b;
                thrown("step 0 of " + b, ILLEGAL, () -> x.sets(at, 0));
            }
            for (int b = 0; b < 12; b++) {
                int at = b;
                due("first step of " + b, 1, () -> x.step(at, PUT, 0, 0, 0));
            }
        });
        sentence(", that stop;", () -> {
            OnceNamed x = new OnceNamed(12);
            for (int b = 1; b < 12; b++) {
                int at = b;
                due("not reached " + b, -1, () -> x.parent(at));
            }
            says("stops", x, 0);
            x.build();
            due("no fork", -1, () -> x.use(0, -1, 0));
        });
        sentence("starts are 0,", () -> {
            OnceNamed x = new OnceNamed(1);
            for (int v = 0; v < 6; v++) {
                x.step(0, SAY, 0, v, 0);
            }
            says("all of them", x, 0, 0, 0, 0, 0, 0, 0);
        });
        sentence("nothing is said,", () -> saidIs("at first", new OnceNamed(1)));
        sentence("no form.", () -> World.noFormIn("at first", new OnceNamed(2)));
    }

    private static void step() {
        section("Promise 2: step");
        sentence("One more step of block b: how many it has then.", () -> {
            OnceNamed x = new OnceNamed(2);
            for (int k = 1; k <= 6; k++) {
                int many = k;
                due("in 0", k, () -> x.step(0, PUT, 0, many, 0));
                due("in 1", k, () -> x.step(1, SAY, 0, 0, 0));
            }
            x.go(0, 1);
            allSay("the last one counts", x, 6, 6, 6, 6, 6, 6);
        });
        sentence("IllegalArgumentException: there is no such block, kind or variable", () -> {
            OnceNamed x = new OnceNamed(5);
            for (int b : NO_BLOCK_OF_5) {
                thrown("block " + b, ILLEGAL, () -> x.step(b, PUT, 0, 0, 0));
            }
            int[] kinds = {-1, 8, MIN, MAX};
            for (int kind : kinds) {
                thrown("kind " + kind, ILLEGAL, () -> x.step(0, kind, 0, 0, 0));
            }
            due("block 0, kind 0", 1, () -> x.step(0, 0, 0, 0, 0));
            due("block 4, kind 7", 1, () -> x.step(4, 7, 0, 0, 0));
        });
        sentence("(v in kinds 0 .. 6, w in 1 .. 7, x in 2 .. 6; others do not matter)", () -> {
            for (int kind = PUT; kind <= SAY; kind++) {
                partOfStep(kind, 0, kind <= LESS);
                partOfStep(kind, 2, kind >= SUM && kind <= LESS);
                if (kind != PUT) {
                    partOfStep(kind, 1, true);
                }
            }
        });
        sentence(", or w is out of range (kind 0);", () -> {
            OnceNamed x = new OnceNamed(1);
            due("999", 1, () -> x.step(0, PUT, 0, 999, 0));
            thrown("1000", ILLEGAL, () -> x.step(0, PUT, 0, 1000, 0));
            due("-999", 2, () -> x.step(0, PUT, 0, -999, 0));
            thrown("-1000", ILLEGAL, () -> x.step(0, PUT, 0, -1000, 0));
            thrown("the least", ILLEGAL, () -> x.step(0, PUT, 0, MIN, 0));
            thrown("the greatest", ILLEGAL, () -> x.step(0, PUT, 0, MAX, 0));
            due("6 is no variable, but a number", 3, () -> x.step(0, PUT, 0, 6, 0));
            due("-1 is no variable, but a number", 4, () -> x.step(0, PUT, 0, -1, 0));
        });
        sentence("IllegalStateException: it has 6.", () -> {
            OnceNamed x = new OnceNamed(1);
            for (int k = 1; k <= 5; k++) {
                x.step(0, SAY, 0, 0, 0);
            }
            due("it has 5", 6, () -> x.step(0, PUT, 0, 1, 0));
            thrown("it has 6", STATE, () -> x.step(0, PUT, 0, 1, 0));
            thrown("again", STATE, () -> x.step(0, SAY, 0, 0, 0));
            x.build();
            due("the sixth is one", 1, () -> x.sets(0, 5));
            thrown("the seventh is none", ILLEGAL, () -> x.sets(0, 6));
        });
    }

    /** Part 0, 1 or 2 of a step, which is v, w or x, with and beyond all variables. */
    private static void partOfStep(int kind, int part, boolean matters) {
        int[] values = {0, 5, -1, 6, MIN, MAX};
        for (int i = 0; i < values.length; i++) {
            OnceNamed o = new OnceNamed(1);
            int[] a = {0, 0, 0};
            a[part] = values[i];
            String what = "kind " + kind + ", part " + part + ", value " + values[i];
            if (matters && i >= 2) {
                thrown(what, ILLEGAL, () -> o.step(0, kind, a[0], a[1], a[2]));
            } else {
                due(what, 1, () -> o.step(0, kind, a[0], a[1], a[2]));
            }
        }
    }

    /** Five blocks, each of which says its number. */
    private static OnceNamed five() {
        OnceNamed x = new OnceNamed(5);
        for (int b = 0; b < 5; b++) {
            x.step(b, PUT, 1, b, 0);
            x.step(b, SAY, 0, 1, 0);
        }
        return x;
    }

    private static void go() {
        section("Promise 3: go");
        sentence("Block b ends by going to a block.", () -> {
            OnceNamed x = five();
            x.go(0, 4);
            allSay("to the last", x, 0, 4);
            x.go(4, 1);
            allSay("and on", x, 0, 4, 1);
            x.fork(0, 0, 1, 2);
            x.go(0, 3);
            allSay("a fork no more", x, 0, 3);
            due("a fork no more", -1, () -> x.use(0, -1, 0));
            x.go(1, 1);
            allSay("a block that is not reached", x, 0, 3);
            x.go(0, 0);
            x.build();
            thrown("to itself, to block 0", STATE, () -> x.run(0));
            due("to itself, to block 0", 0, () -> x.said(49));
        });
        sentence("IllegalArgumentException: there is no such block.", () -> {
            OnceNamed x = five();
            x.go(0, 2);
            for (int b : NO_BLOCK_OF_5) {
                thrown("from " + b, ILLEGAL, () -> x.go(b, 0));
                thrown("to " + b, ILLEGAL, () -> x.go(0, b));
            }
            says("all is as before", x, 0, 0, 2);
        });
    }

    private static void fork() {
        section("Promise 4: fork");
        sentence("Block b ends with a fork by variable v.", () -> {
            int[] variables = {0, 5};
            for (int v : variables) {
                OnceNamed x = five();
                x.fork(0, v, 4, 3);
                allSay("by 0", x, 0, 3);
                due("its use", 100 * v, () -> x.use(0, -1, 0));
                x.start(v, 1);
                allSay("by 1", x, 0, 4);
                x.start(v, -1);
                allSay("by -1", x, 0, 4);
                x.fork(0, v, 2, 2);
                allSay("to the same", x, 0, 2);
                x.fork(4, v, 4, 4);
                allSay("in a block that is not reached", x, 0, 2);
            }
        });
        sentence("IllegalArgumentException: there is no such block or variable.", () -> {
            OnceNamed x = five();
            x.go(0, 2);
            for (int b : NO_BLOCK_OF_5) {
                thrown("from " + b, ILLEGAL, () -> x.fork(b, 0, 0, 0));
                thrown("to " + b, ILLEGAL, () -> x.fork(0, 0, b, 0));
                thrown("or to " + b, ILLEGAL, () -> x.fork(0, 0, 0, b));
            }
            for (int v : NO_VARIABLE) {
                thrown("by " + v, ILLEGAL, () -> x.fork(0, v, 0, 0));
            }
            says("all is as before", x, 0, 0, 2);
        });
    }

    private static void stop() {
        section("Promise 5: stop");
        sentence("Block b stops.", () -> {
            OnceNamed x = five();
            x.go(0, 4);
            x.fork(4, 0, 2, 3);
            allSay("before", x, 0, 4, 3);
            x.stop(4);
            allSay("the last", x, 0, 4);
            due("a fork no more", -1, () -> x.use(4, -1, 0));
            x.stop(0);
            allSay("the first", x, 0);
            due("the others are not reached", -1, () -> x.parent(4));
        });
        sentence("IllegalArgumentException: there is no such block.", () -> {
            OnceNamed x = five();
            x.go(0, 2);
            for (int b : NO_BLOCK_OF_5) {
                thrown("of " + b, ILLEGAL, () -> x.stop(b));
            }
            says("all is as before", x, 0, 0, 2);
        });
    }

    private static void start() {
        section("Promise 6: start");
        sentence("The start of variable v is a value.", () -> {
            int[] values = {MIN, -1000, -1, 0, 1, 1000, MAX};
            for (int value : values) {
                OnceNamed x = oneBlock(4, 4, 4, 4, 4, 4);
                x.step(0, SAY, 0, 0, 0);
                x.step(0, SAY, 0, 5, 0);
                x.step(0, SAY, 0, 1, 0);
                x.start(0, value);
                allSay("of 0", x, value, 4, 4);
                x.start(5, value);
                allSay("of 5", x, value, value, 4);
                x.start(0, 3);
                allSay("the latest one", x, 3, value, 4);
            }
        });
        sentence("IllegalArgumentException: there is no such variable.", () -> {
            OnceNamed x = oneBlock();
            for (int v = 0; v < 6; v++) {
                x.step(0, SAY, 0, v, 0);
            }
            for (int v : NO_VARIABLE) {
                thrown("of " + v, ILLEGAL, () -> x.start(v, 7));
            }
            says("all is as before", x, 0, 0, 0, 0, 0, 0, 0);
        });
    }

    private static void build() {
        section("Promise 7: build");
        sentence("There is the named form of the program, not propagated", () -> {
            OnceNamed x = copying();
            thrown("none before", UNSUPPORTED, () -> x.valid());
            x.build();
            due("there is one", true, x.valid());
            due("with its copies", 101, () -> x.sets(0, 0));
            due("which use names", 0, () -> x.use(0, 0, 0));
        });
        sentence("(anew, if there was one)", () -> {
            OnceNamed x = copying();
            x.build();
            x.propagate();
            due("propagated", -1, () -> x.sets(0, 0));
            due("again", 8, () -> x.build());
            due("not propagated", 101, () -> x.sets(0, 0));
            due("not propagated", 101, () -> x.use(0, 1, 0));
            x.alter(0, 0, 0, 201);
            due("altered", false, x.valid());
            due("again", 8, () -> x.build());
            due("not altered", 0, () -> x.use(0, 0, 0));
            due("not altered", true, x.valid());
            OnceNamed y = twoWays();
            y.build();
            y.turn(3, 1, 1, 500);
            y.build();
            due("not turned", 101, () -> y.source(3, 1, 1));
        });
        sentence(": how many names there are (six of the entry among them;", () -> {
            OnceNamed x = new OnceNamed(1);
            due("without steps", 6, () -> x.build());
            x.step(0, SAY, 0, 0, 0);
            due("saying sets none", 6, () -> x.build());
            x.step(0, COPY, 0, 0, 0);
            due("a copy sets one", 7, () -> x.build());
            x.step(0, PUT, 5, 0, 0);
            due("one more", 8, () -> x.build());
            x.go(0, 0);
            due("two meetings", 10, () -> x.build());
            due("most names", 6 + 72 + 72, () -> fullOfNames().build());
        });
        sentence("what is in blocks that are not reached has none).", () -> {
            OnceNamed x = twoWays();
            due("all but what is in 4", 10, () -> x.build());
            x.stop(2);
            due("no meeting", 9, () -> x.build());
            x.go(0, 1);
            due("one setting less", 8, () -> x.build());
            due("in 2", -1, () -> x.sets(2, 0));
            x.stop(0);
            due("0 alone", 7, () -> x.build());
            OnceNamed y = fullOfNames();
            y.build();
            y.stop(0);
            due("what was reached before has none either", 12, () -> y.build());
            for (int b = 1; b < 12; b++) {
                nothingNamedIn(y, b);
            }
        });
    }

    private static void nothingNamedIn(OnceNamed x, int b) {
        due("end of " + b, -1, () -> x.use(b, -1, 0));
        for (int i = 0; i < 6; i++) {
            int at = i;
            due("meeting in " + b, -1, () -> x.meeting(b, at));
            due("its use", -1, () -> x.source(b, at, b - 1));
            due("step of " + b, -1, () -> x.sets(b, at));
            due("its use for w", -1, () -> x.use(b, at, 0));
            due("its use for x", -1, () -> x.use(b, at, 1));
        }
    }

    /** Variable 1 is copied from 0, and 2 from 1; then 2 is said. */
    private static OnceNamed copying() {
        OnceNamed x = oneBlock(5);
        x.step(0, COPY, 1, 0, 0);
        x.step(0, COPY, 2, 1, 0);
        x.step(0, SAY, 0, 2, 0);
        return x;
    }

    /** 0 forks to 1 and 2, which set 1 and go to 3, which says it; 4 is not reached. */
    private static OnceNamed twoWays() {
        OnceNamed x = new OnceNamed(5);
        x.step(0, PUT, 0, 1, 0);
        x.fork(0, 0, 1, 2);
        x.step(1, PUT, 1, 5, 0);
        x.go(1, 3);
        x.step(2, PUT, 1, 6, 0);
        x.go(2, 3);
        x.step(3, SAY, 0, 1, 0);
        x.step(4, COPY, 2, 1, 0);
        x.fork(4, 1, 3, 4);
        return x;
    }

    /** Twelve blocks of six settings, in each of which all variables meet. */
    private static OnceNamed fullOfNames() {
        OnceNamed x = new OnceNamed(12);
        for (int b = 0; b < 12; b++) {
            for (int v = 0; v < 6; v++) {
                x.step(b, SUM, v, v, 5 - v);
            }
            x.fork(b, 5, Math.max(0, b - 1), Math.min(11, b + 1));
        }
        return x;
    }

    private static void propagate() {
        section("Promise 8: propagate");
        sentence("The form is propagated: how many copies went", () -> {
            OnceNamed x = copying();
            x.build();
            due("two", 2, () -> x.propagate());
            due("gone", -1, () -> x.sets(0, 0));
            due("gone", -1, () -> x.sets(0, 1));
            due("the use of what it stands for", 0, () -> x.use(0, 2, 0));
            says("says the same", x, 1, 5);
            says("says the same", x, 2, 5);
            OnceNamed none = oneBlock();
            none.step(0, PUT, 0, 1, 0);
            none.build();
            due("none", 0, () -> none.propagate());
            due("not gone", 1, () -> none.sets(0, 0));
            due("most copies", 72, () -> fullOfCopies().propagate());
        });
        sentence("(those of blocks that are reached;", () -> {
            OnceNamed x = twoWays();
            x.step(3, COPY, 2, 1, 0);
            x.build();
            due("one, not that in 4", 1, () -> x.propagate());
            x.fork(3, 0, 0, 4);
            x.build();
            due("both", 2, () -> x.propagate());
        });
        sentence("a second time 0).", () -> {
            OnceNamed x = copying();
            x.build();
            x.propagate();
            due("a second time", 0, () -> x.propagate());
            due("a third time", 0, () -> x.propagate());
            due("uses stay", 0, () -> x.use(0, 2, 0));
            x.build();
            due("built anew", 2, () -> x.propagate());
        });
        sentence("UnsupportedOperationException: no form;", () -> {
            OnceNamed x = copying();
            thrown("not built", UNSUPPORTED, () -> x.propagate());
            x.build();
            x.propagate();
            x.start(0, 5);
            thrown("taken away", UNSUPPORTED, () -> x.propagate());
        });
        sentence("IllegalStateException: it is not valid.", () -> {
            OnceNamed x = copying();
            x.build();
            x.alter(0, 0, 0, 101);
            thrown("a copy of itself", STATE, () -> x.propagate());
            x.alter(0, 0, 0, 201);
            thrown("a ring of copies", STATE, () -> x.propagate());
            due("nothing is gone", 101, () -> x.sets(0, 0));
            due("nothing is changed", 201, () -> x.use(0, 0, 0));
            x.alter(0, 0, 0, 500);
            due("valid", 2, () -> x.propagate());
            due("by what was altered", 500, () -> x.use(0, 2, 0));
            OnceNamed y = twoWays();
            y.build();
            y.propagate();
            y.turn(3, 1, 1, 102);
            thrown("also a second time", STATE, () -> y.propagate());
        });
    }

    /** Twelve blocks of six copies, in a row. */
    private static OnceNamed fullOfCopies() {
        OnceNamed x = new OnceNamed(12);
        for (int b = 0; b < 12; b++) {
            for (int v = 0; v < 6; v++) {
                x.step(b, COPY, v, (v + 1) % 6, 0);
            }
            if (b < 11) {
                x.go(b, b + 1);
            }
        }
        x.build();
        return x;
    }

    private static void parent() {
        section("Promise 9: parent");
        sentence("The parent of block b,", () -> {
            OnceNamed x = twoWays();
            int[] parents = {5, 0, 0, 0};
            for (int b = 0; b < 4; b++) {
                int at = b;
                due("of " + b, parents[b], () -> x.parent(at));
            }
            x.go(0, 2);
            due("of the one below", 2, () -> x.parent(3));
        });
        sentence("n for the entry;", () -> {
            due("of 1", 1, () -> new OnceNamed(1).parent(0));
            due("of 12", 12, () -> new OnceNamed(12).parent(0));
            due("of 13, which are 12", 12, () -> new OnceNamed(13).parent(0));
            due("of 0, which are 1", 1, () -> new OnceNamed(0).parent(0));
            OnceNamed x = five();
            x.go(0, 4);
            x.go(4, 0);
            due("in a ring, too", 5, () -> x.parent(0));
        });
        sentence("-1 when b is not reached.", () -> {
            OnceNamed x = twoWays();
            due("not reached", -1, () -> x.parent(4));
            x.go(3, 4);
            due("reached", 3, () -> x.parent(4));
            x.stop(3);
            due("no more", -1, () -> x.parent(4));
        });
        sentence("IllegalArgumentException: there is no such block.", () -> {
            OnceNamed x = twoWays();
            for (int b : NO_BLOCK_OF_5) {
                thrown("of " + b, ILLEGAL, () -> x.parent(b));
            }
        });
    }

    private static void dominates() {
        section("Promise 10: dominates");
        sentence("Whether block b dominates c (both reached).", () -> {
            OnceNamed x = twoWays();
            for (int b = 0; b < 5; b++) {
                for (int c = 0; c < 5; c++) {
                    boolean want = b < 4 && c < 4 && (b == 0 || b == c);
                    due(b + " and " + c, want, x.dominates(b, c));
                }
            }
            x.go(3, 4);
            due("4 is reached now", true, x.dominates(4, 4));
            due("by 3", true, x.dominates(3, 4));
        });
        sentence("IllegalArgumentException: there is no such block.", () -> {
            OnceNamed x = twoWays();
            for (int b : NO_BLOCK_OF_5) {
                thrown(b + " does", ILLEGAL, () -> x.dominates(b, 0));
                thrown("0 does " + b, ILLEGAL, () -> x.dominates(0, b));
                thrown("4 does " + b, ILLEGAL, () -> x.dominates(4, b));
            }
        });
    }

    private static void frontier() {
        section("Promise 11: frontier");
        sentence("Whether block c (perhaps b) is in the frontier of b", () -> {
            OnceNamed x = twoWays();
            for (int b = 0; b < 5; b++) {
                for (int c = 0; c < 5; c++) {
                    boolean want = c == 3 && (b == 1 || b == 2);
                    due(b + " and " + c, want, x.frontier(b, c));
                }
            }
            x.fork(3, 0, 1, 3);
            due("3 in its own", true, x.frontier(3, 3));
            due("1 in that of 3", true, x.frontier(3, 1));
            due("1 not in its own", false, x.frontier(1, 1));
            x.go(3, 0);
            due("0 in its own", true, x.frontier(0, 0));
            due("0 in that of 3", true, x.frontier(3, 0));
        });
        sentence("(both reached; else false, as in dominates).", () -> {
            OnceNamed x = twoWays();
            due("of 4", false, x.frontier(4, 3));
            due("4 in its own", false, x.frontier(4, 4));
            due("4 in that of 1", false, x.frontier(1, 4));
            x.fork(1, 0, 3, 4);
            due("of 4", true, x.frontier(4, 3));
            due("4 in its own", true, x.frontier(4, 4));
        });
        sentence("IllegalArgumentException: there is no such block.", () -> {
            OnceNamed x = twoWays();
            for (int b : NO_BLOCK_OF_5) {
                thrown("of " + b, ILLEGAL, () -> x.frontier(b, 0));
                thrown("has " + b, ILLEGAL, () -> x.frontier(0, b));
                thrown("of 4 has " + b, ILLEGAL, () -> x.frontier(4, b));
            }
        });
    }

    private static void meeting() {
        section("Promise 12: meeting");
        sentence("The name that variable v gets by meeting in block b;", () -> {
            OnceNamed x = twoWays();
            x.build();
            due("1 in 3", 103, () -> x.meeting(3, 1));
            OnceNamed y = fullOfNames();
            y.build();
            due("the first of 0", 1, () -> y.meeting(0, 0));
            due("the first of 5", 501, () -> y.meeting(0, 5));
            due("the last of 0", 23, () -> y.meeting(11, 0));
            due("the last of 5", 523, () -> y.meeting(11, 5));
            y.propagate();
            due("propagated", 523, () -> y.meeting(11, 5));
        });
        sentence("-1 when it does not meet there, or b is not reached.", () -> {
            OnceNamed x = twoWays();
            x.build();
            for (int b = 0; b < 5; b++) {
                for (int v = 0; v < 6; v++) {
                    int at = b;
                    int variable = v;
                    if (b != 3 || v != 1) {
                        due(v + " in " + b, -1, () -> x.meeting(at, variable));
                    }
                }
            }
            x.fork(3, 0, 4, 4);
            x.build();
            due("4 is reached, and 2 meets in it", 202, () -> x.meeting(4, 2));
        });
        needsForm(x -> x.meeting(3, 1));
        sentence("IllegalArgumentException: there is no such block or variable.", () -> {
            OnceNamed x = twoWays();
            x.build();
            for (int b : NO_BLOCK_OF_5) {
                thrown("in " + b, ILLEGAL, () -> x.meeting(b, 0));
            }
            for (int v : NO_VARIABLE) {
                thrown("of " + v, ILLEGAL, () -> x.meeting(0, v));
                thrown("of " + v + " in 4", ILLEGAL, () -> x.meeting(4, v));
            }
        });
    }

    /** The call is in order for the two ways once the form is built, and as long as it stands. */
    private static void needsForm(World.On call) {
        sentence("UnsupportedOperationException: no form;", () -> noFormNoAnswer(call));
    }

    private static void noFormNoAnswer(World.On call) {
        OnceNamed x = twoWays();
        thrown("not built", UNSUPPORTED, () -> call.make(x));
        x.build();
        fine("built", () -> call.make(x));
        x.propagate();
        fine("propagated", () -> call.make(x));
        x.stop(4);
        thrown("taken away", UNSUPPORTED, () -> call.make(x));
        x.build();
        fine("built again", () -> call.make(x));
    }

    private static void source() {
        section("Promise 13: source");
        sentence("The name that such a meeting uses for a forerunner p", () -> {
            OnceNamed x = twoWays();
            x.build();
            due("for 1", 101, () -> x.source(3, 1, 1));
            due("for 2", 102, () -> x.source(3, 1, 2));
            x.fork(3, 0, 3, 1);
            x.build();
            due("for itself, by its meeting", x.meeting(3, 1), () -> x.source(3, 1, 3));
            OnceNamed y = fullOfNames();
            y.build();
            due("for the last block", 524, () -> y.source(11, 5, 11));
        });
        sentence("(n for the entry;", () -> {
            OnceNamed x = twoWays();
            x.go(3, 0);
            x.build();
            due("the entry", 100, () -> x.source(0, 1, 5));
            due("not the entry", x.meeting(3, 1), () -> x.source(0, 1, 3));
            OnceNamed y = oneBlock();
            y.step(0, PUT, 5, 1, 0);
            y.go(0, 0);
            y.build();
            due("the entry", 500, () -> y.source(0, 5, 1));
            due("block 0", 502, () -> y.source(0, 5, 0));
            OnceNamed z = fullOfNames();
            z.build();
            due("the entry", 500, () -> z.source(0, 5, 12));
        });
        sentence("one that leads there twice is one);", () -> {
            OnceNamed x = twoWays();
            x.fork(1, 0, 3, 3);
            due("names", 10, () -> x.build());
            due("one name", 101, () -> x.source(3, 1, 1));
            x.fork(2, 1, 3, 3);
            x.build();
            due("one name", 102, () -> x.source(3, 1, 2));
            due("as many copies", 1, () -> x.copies(3, 2));
            OnceNamed y = five();
            y.fork(0, 1, 1, 1);
            y.build();
            due("one forerunner is no meeting", -1, () -> y.meeting(1, 1));
        });
        sentence("-1 when v does not meet there, or p is none that is reached.", () -> {
            OnceNamed x = twoWays();
            x.build();
            for (int p = 0; p <= 5; p++) {
                int from = p;
                due("0 does not meet in 3", -1, () -> x.source(3, 0, from));
                due("1 does not meet in 1", -1, () -> x.source(1, 1, from));
                due("4 is not reached", -1, () -> x.source(4, 1, from));
            }
            due("0 is none", -1, () -> x.source(3, 1, 0));
            due("itself is none", -1, () -> x.source(3, 1, 3));
            due("4 is none that is reached", -1, () -> x.source(3, 1, 4));
            due("the entry is none", -1, () -> x.source(3, 1, 5));
        });
        needsForm(x -> x.source(3, 1, 1));
        sentence("IllegalArgumentException: there is no such block or variable, "
                + "or p is not 0 .. n.", () -> {
                    OnceNamed x = twoWays();
                    x.build();
                    for (int b : NO_BLOCK_OF_5) {
                        thrown("in " + b, ILLEGAL, () -> x.source(b, 0, 0));
                    }
                    for (int v : NO_VARIABLE) {
                        thrown("of " + v, ILLEGAL, () -> x.source(3, v, 1));
                    }
                    fine("for 0", () -> x.source(3, 1, 0));
                    fine("for n", () -> x.source(3, 1, 5));
                    int[] none = {-1, 6, MIN, MAX};
                    for (int p : none) {
                        thrown("for " + p, ILLEGAL, () -> x.source(3, 1, p));
                        thrown("for " + p + ", no meeting", ILLEGAL, () -> x.source(4, 0, p));
                    }
                });
    }

    private static void sets() {
        section("Promise 14: sets");
        sentence("The name that step k of block b sets;", () -> {
            OnceNamed x = fullOfNames();
            x.build();
            due("the first", 2, () -> x.sets(0, 0));
            due("the sixth", 502, () -> x.sets(0, 5));
            due("the first of the last", 24, () -> x.sets(11, 0));
            due("the sixth of the last", 524, () -> x.sets(11, 5));
            for (int kind = PUT; kind <= LESS; kind++) {
                OnceNamed y = oneBlock();
                y.step(0, kind, 3, 0, 0);
                y.build();
                due("kind " + kind, 301, () -> y.sets(0, 0));
            }
        });
        sentence("-1 when it sets none (also: it is gone, or b is not reached).", () -> {
            OnceNamed x = copying();
            x.build();
            due("saying", -1, () -> x.sets(0, 2));
            due("not gone", 101, () -> x.sets(0, 0));
            x.propagate();
            due("gone", -1, () -> x.sets(0, 0));
            OnceNamed y = twoWays();
            y.build();
            due("not reached", -1, () -> y.sets(4, 0));
            y.go(3, 4);
            y.build();
            due("reached", 203, () -> y.sets(4, 0));
        });
        needsForm(x -> x.sets(0, 0));
        sentence("IllegalArgumentException: there is no such block or step.", () -> {
            OnceNamed x = twoWays();
            x.build();
            for (int b : NO_BLOCK_OF_5) {
                thrown("in " + b, ILLEGAL, () -> x.sets(b, 0));
            }
            int[] none = {-1, 1, MIN, MAX};
            for (int k : none) {
                thrown("of " + k, ILLEGAL, () -> x.sets(0, k));
                thrown("of " + k + " in 4", ILLEGAL, () -> x.sets(4, k));
            }
            OnceNamed y = copying();
            y.build();
            y.propagate();
            fine("a step that is gone is one", () -> y.sets(0, 1));
            thrown("one beyond", ILLEGAL, () -> y.sets(0, 3));
            OnceNamed z = fullOfNames();
            z.build();
            fine("the sixth of the last", () -> z.sets(11, 5));
            thrown("the seventh of the last", ILLEGAL, () -> z.sets(11, 6));
            thrown("the seventh of the first", ILLEGAL, () -> z.sets(0, 6));
        });
    }

    private static void use() {
        section("Promise 15: use");
        sentence("The name that step k of block b uses for w (which 0) or x (1),", () -> {
            for (int kind = PUT; kind <= SAY; kind++) {
                OnceNamed x = oneBlock();
                x.step(0, kind, 0, 1, 2);
                x.build();
                due("w in kind " + kind, kind == PUT ? -1 : 100, () -> x.use(0, 0, 0));
                boolean two = kind >= SUM && kind <= LESS;
                due("x in kind " + kind, two ? 200 : -1, () -> x.use(0, 0, 1));
            }
            OnceNamed y = fullOfNames();
            y.build();
            due("w in the last step of all", 523, () -> y.use(11, 5, 0));
            due("x in the last step of all", 24, () -> y.use(11, 5, 1));
        });
        sentence("or that its end uses (k is -1; which does not matter; -1 unless it is a fork);",
                () -> {
                    OnceNamed x = twoWays();
                    x.build();
                    int[] any = {0, 1, -1, 2, MIN, MAX};
                    for (int which : any) {
                        due("fork, which " + which, 1, () -> x.use(0, -1, which));
                        due("go, which " + which, -1, () -> x.use(1, -1, which));
                        due("stop, which " + which, -1, () -> x.use(3, -1, which));
                    }
                    x.fork(3, 1, 3, 3);
                    x.build();
                    due("fork to the same", 103, () -> x.use(3, -1, 0));
                });
        sentence("-1 when there is none such (also: it is gone, or b is not reached).", () -> {
            OnceNamed x = copying();
            x.build();
            due("no x in a copy", -1, () -> x.use(0, 0, 1));
            due("not gone", 101, () -> x.use(0, 1, 0));
            x.propagate();
            due("gone", -1, () -> x.use(0, 1, 0));
            due("gone", -1, () -> x.use(0, 1, 1));
            OnceNamed y = twoWays();
            y.build();
            due("not reached", -1, () -> y.use(4, 0, 0));
            due("a fork that is not reached", -1, () -> y.use(4, -1, 0));
        });
        needsForm(x -> x.use(0, -1, 0));
        sentence("IllegalArgumentException: there is no such block or step, "
                + "or k is not -1 and which not 0 or 1.", () ->
                    wrongUses((x, b, k, which) -> x.use(b, k, which)));
    }

    /** A call that asks for a use. */
    private interface OfUse {
        void make(OnceNamed x, int b, int k, int which);
    }

    private static void wrongUses(OfUse call) {
        OnceNamed x = twoWays();
        x.build();
        for (int b : NO_BLOCK_OF_5) {
            thrown("step in " + b, ILLEGAL, () -> call.make(x, b, 0, 0));
            thrown("end in " + b, ILLEGAL, () -> call.make(x, b, -1, 0));
        }
        int[] noStep = {-2, 1, MIN, MAX};
        for (int k : noStep) {
            thrown("step " + k, ILLEGAL, () -> call.make(x, 3, k, 0));
            thrown("step " + k + " in 4", ILLEGAL, () -> call.make(x, 4, k, 0));
        }
        int[] noWhich = {-1, 2, MIN, MAX};
        for (int which : noWhich) {
            thrown("which " + which, ILLEGAL, () -> call.make(x, 3, 0, which));
            thrown("which " + which + " in 4", ILLEGAL, () -> call.make(x, 4, 0, which));
            fine("which " + which + " for an end", () -> call.make(x, 0, -1, which));
        }
        fine("the step there is", () -> call.make(x, 3, 0, 0));
        OnceNamed y = fullOfNames();
        y.build();
        fine("the sixth step of the last", () -> call.make(y, 11, 5, 1));
        thrown("the seventh step of the last", ILLEGAL, () -> call.make(y, 11, 6, 1));
        thrown("the seventh step of the first", ILLEGAL, () -> call.make(y, 0, 6, 0));
    }

    private static void alter() {
        section("Promise 16: alter");
        sentence("That use is of another name (of any variable, whether the form is valid by it "
                + "or not) from now on.", () -> {
                    OnceNamed x = fullOfNames();
                    x.build();
                    int[] names = {0, 24, 500, 524};
                    for (int name : names) {
                        x.alter(0, 0, 0, name);
                        due("w", name, () -> x.use(0, 0, 0));
                        x.alter(11, 5, 1, name);
                        due("x", name, () -> x.use(11, 5, 1));
                        x.alter(0, -1, MAX, name);
                        due("the end", name, () -> x.use(0, -1, 0));
                    }
                    due("not valid", false, x.valid());
                    due("the other of the step stays", 501, () -> x.use(0, 0, 1));
                    due("the next step stays", 101, () -> x.use(0, 1, 0));
                    due("what is set stays", 2, () -> x.sets(0, 0));
                    OnceNamed y = copying();
                    y.build();
                    y.alter(0, 2, 0, 500);
                    says("runs by it", y, 1, 0);
                    says("runs by it", y, 2, 0);
                    says("not the program", y, 0, 5);
                    y.alter(0, 2, 0, 201);
                    says("and back", y, 1, 5);
                });
        needsForm(x -> x.alter(3, 0, 0, 0));
        sentence("IllegalArgumentException: as in use,", () ->
                wrongUses((x, b, k, which) -> x.alter(b, k, which, 0)));
        sentence("or use() answers -1,", () -> {
            OnceNamed x = twoWays();
            x.build();
            thrown("put", ILLEGAL, () -> x.alter(0, 0, 0, 0));
            thrown("no x in saying", ILLEGAL, () -> x.alter(3, 0, 1, 0));
            thrown("go", ILLEGAL, () -> x.alter(1, -1, 0, 0));
            thrown("stop", ILLEGAL, () -> x.alter(3, -1, 0, 0));
            thrown("not reached", ILLEGAL, () -> x.alter(4, 0, 0, 0));
            thrown("a fork that is not reached", ILLEGAL, () -> x.alter(4, -1, 0, 0));
            due("still none", -1, () -> x.use(4, 0, 0));
            OnceNamed y = copying();
            y.build();
            fine("not gone", () -> y.alter(0, 1, 0, 0));
            y.propagate();
            thrown("gone", ILLEGAL, () -> y.alter(0, 1, 0, 0));
            due("still gone", -1, () -> y.use(0, 1, 0));
        });
        sentence("or there is no such name.", () -> {
            OnceNamed x = twoWays();
            x.build();
            int[] names = {0, 1, 100, 101, 103, 200, 300, 400, 500};
            for (int name : names) {
                fine("name " + name, () -> x.alter(3, 0, 0, name));
                due("name " + name, name, () -> x.use(3, 0, 0));
            }
            for (int name : NO_NAME_OF_TWO_WAYS) {
                thrown("name " + name, ILLEGAL, () -> x.alter(3, 0, 0, name));
                thrown("name " + name, ILLEGAL, () -> x.alter(0, -1, 0, name));
            }
            due("as before", 500, () -> x.use(3, 0, 0));
            due("as before", 1, () -> x.use(0, -1, 0));
            OnceNamed y = copying();
            y.build();
            fine("not gone", () -> y.alter(0, 2, 0, 101));
            y.propagate();
            thrown("gone", ILLEGAL, () -> y.alter(0, 2, 0, 101));
            y.build();
            fine("there again", () -> y.alter(0, 2, 0, 101));
        });
    }

    private static final int[] NO_NAME_OF_TWO_WAYS = {
        -1, 2, 99, 104, 199, 201, 301, 401, 501, 599, 600, 601, MIN, MAX
    };

    private static void turn() {
        section("Promise 17: turn");
        sentence("The use of a meeting is of another name from now on.", () -> {
            OnceNamed x = fullOfNames();
            x.build();
            int[] names = {0, 24, 500, 524};
            for (int name : names) {
                x.turn(0, 0, 12, name);
                due("for the entry", name, () -> x.source(0, 0, 12));
                x.turn(11, 5, 11, name);
                due("for the last", name, () -> x.source(11, 5, 11));
            }
            due("not valid", false, x.valid());
            due("the other forerunner's stays", 522, () -> x.source(11, 5, 10));
            due("the other variable's stays", 424, () -> x.source(11, 4, 11));
            due("the meeting's name stays", 523, () -> x.meeting(11, 5));
            OnceNamed y = twoWays();
            y.start(5, 8);
            y.build();
            y.turn(3, 1, 2, 500);
            says("not come from 2", y, 1, 5);
            y.turn(3, 1, 1, 500);
            says("runs by it", y, 1, 8);
            says("runs by it", y, 2, 8);
            says("not the program", y, 0, 5);
        });
        needsForm(x -> x.turn(3, 1, 1, 0));
        sentence("IllegalArgumentException: as in source,", () -> {
            OnceNamed x = twoWays();
            x.build();
            for (int b : NO_BLOCK_OF_5) {
                thrown("in " + b, ILLEGAL, () -> x.turn(b, 1, 1, 0));
            }
            for (int v : NO_VARIABLE) {
                thrown("of " + v, ILLEGAL, () -> x.turn(3, v, 1, 0));
            }
            int[] none = {-1, 6, MIN, MAX};
            for (int p : none) {
                thrown("for " + p, ILLEGAL, () -> x.turn(3, 1, p, 0));
            }
            due("as before", 101, () -> x.source(3, 1, 1));
        });
        sentence("or source() answers -1,", () -> {
            OnceNamed x = twoWays();
            x.build();
            thrown("no meeting", ILLEGAL, () -> x.turn(3, 0, 1, 0));
            thrown("no meeting", ILLEGAL, () -> x.turn(0, 1, 5, 0));
            thrown("no forerunner", ILLEGAL, () -> x.turn(3, 1, 0, 0));
            thrown("not reached", ILLEGAL, () -> x.turn(3, 1, 4, 0));
            thrown("not the entry", ILLEGAL, () -> x.turn(3, 1, 5, 0));
            thrown("in a block that is not reached", ILLEGAL, () -> x.turn(4, 2, 4, 0));
            due("still none", -1, () -> x.source(3, 1, 4));
            fine("a forerunner", () -> x.turn(3, 1, 2, 0));
        });
        sentence("or there is no such name.", () -> {
            OnceNamed x = twoWays();
            x.build();
            int[] names = {0, 1, 100, 101, 103, 200, 300, 400, 500};
            for (int name : names) {
                fine("name " + name, () -> x.turn(3, 1, 1, name));
                due("name " + name, name, () -> x.source(3, 1, 1));
            }
            for (int name : NO_NAME_OF_TWO_WAYS) {
                thrown("name " + name, ILLEGAL, () -> x.turn(3, 1, 1, name));
            }
            due("as before", 500, () -> x.source(3, 1, 1));
            OnceNamed y = twoWays();
            y.step(2, COPY, 5, 1, 0);
            y.build();
            fine("not gone", () -> y.turn(3, 1, 1, 501));
            y.turn(3, 1, 1, 0);
            y.propagate();
            thrown("gone", ILLEGAL, () -> y.turn(3, 1, 1, 501));
        });
    }

    private static void valid() {
        section("Promise 18: valid");
        sentence("Whether the form is valid.", () -> {
            OnceNamed x = fullOfNames();
            x.build();
            due("built", true, x.valid());
            x.propagate();
            due("propagated", true, x.valid());
            x.alter(0, 5, 1, 502);
            due("a use of what it sets itself", false, x.valid());
            x.alter(0, 5, 1, 402);
            due("a use of what the step before sets", true, x.valid());
            x.alter(11, -1, 0, 524);
            due("an end's use of the last name", true, x.valid());
            x.alter(10, -1, 0, 524);
            due("of a block that does not dominate", false, x.valid());
            OnceNamed y = new OnceNamed(1);
            y.build();
            due("no uses", true, y.valid());
        });
        sentence("UnsupportedOperationException: no form.", () ->
                noFormNoAnswer(x -> x.valid()));
    }

    private static void copies() {
        section("Promise 19: copies");
        sentence("The least number of copies, each of one name (or one place besides) into "
                + "another, one after the other, by which the meetings of block b are set when it "
                + "is come to from p", EdgesTest::leastCopies);
        sentence("(one that uses its own name needs none);", () -> {
            OnceNamed x = sixMeetings();
            for (int v = 0; v < 6; v++) {
                x.turn(0, v, 1, x.meeting(0, v));
                int left = 5 - v;
                due("own names up to " + v, left, () -> x.copies(0, 1));
            }
            due("from the entry as before", 6, () -> x.copies(0, 2));
        });
        sentence("0 when p is no forerunner that is reached.", () -> {
            OnceNamed x = twoWays();
            x.build();
            due("a forerunner", 1, () -> x.copies(3, 1));
            due("a forerunner", 1, () -> x.copies(3, 2));
            due("no forerunner", 0, () -> x.copies(3, 0));
            due("itself", 0, () -> x.copies(3, 3));
            due("not reached", 0, () -> x.copies(3, 4));
            due("not the entry", 0, () -> x.copies(3, 5));
            due("the entry, without meetings", 0, () -> x.copies(0, 5));
            due("to one that is not reached", 0, () -> x.copies(4, 4));
            x.fork(3, 0, 0, 4);
            x.build();
            due("the entry", 1, () -> x.copies(0, 5) > 0 ? 1 : 0);
            due("reached now", 1, () -> x.copies(3, 4) > 0 ? 1 : 0);
        });
        needsForm(x -> x.copies(3, 1));
        sentence("IllegalArgumentException: there is no such block, or p is not 0 .. n.", () -> {
            OnceNamed x = twoWays();
            x.build();
            for (int b : NO_BLOCK_OF_5) {
                thrown("in " + b, ILLEGAL, () -> x.copies(b, 0));
            }
            fine("from 0", () -> x.copies(4, 0));
            fine("from n", () -> x.copies(4, 5));
            int[] none = {-1, 6, MIN, MAX};
            for (int p : none) {
                thrown("from " + p, ILLEGAL, () -> x.copies(3, p));
            }
        });
    }

    /** All six variables meet in block 0, which is come to from the entry and from 1. */
    private static OnceNamed sixMeetings() {
        OnceNamed x = new OnceNamed(2);
        for (int v = 0; v < 6; v++) {
            x.start(v, v);
            x.step(0, SAY, 0, v, 0);
            x.step(1, PUT, v, v, 0);
        }
        x.go(0, 1);
        x.go(1, 0);
        x.build();
        return x;
    }

    /** Meeting v is turned to use the meeting of another variable, or for -1 the entry's name. */
    private static void leastIs(String what, int want, int... sources) {
        OnceNamed x = sixMeetings();
        for (int v = 0; v < 6; v++) {
            x.turn(0, v, 1, sources[v] == -1 ? 100 * v : x.meeting(0, sources[v]));
        }
        due(what, want, () -> x.copies(0, 1));
        due(what + ", the same in both ways", true, bothAlike(x));
    }

    private static boolean bothAlike(OnceNamed x) {
        int[][] said = new int[2][50];
        for (int form = 1; form <= 2; form++) {
            try {
                x.run(form);
                return false;
            } catch (IllegalStateException e) {
                for (int i = 0; i < 50; i++) {
                    said[form - 1][i] = x.said(i);
                }
            }
        }
        return Arrays.equals(said[0], said[1]);
    }

    private static void leastCopies() {
        OnceNamed x = sixMeetings();
        due("no meetings", 0, () -> x.copies(1, 0));
        due("from the entry", 6, () -> x.copies(0, 2));
        leastIs("none uses another", 6, -1, -1, -1, -1, -1, -1);
        leastIs("a row", 6, 1, 2, 3, 4, 5, -1);
        leastIs("a row the other way", 6, -1, 0, 1, 2, 3, 4);
        leastIs("one for all others", 6, -1, 0, 0, 0, 0, 0);
        leastIs("a ring of two", 7, 1, 0, -1, -1, -1, -1);
        leastIs("a ring of three", 7, 1, 2, 0, -1, -1, -1);
        leastIs("a ring of six", 7, 1, 2, 3, 4, 5, 0);
        leastIs("two rings of two", 8, 1, 0, 3, 2, -1, -1);
        leastIs("two rings of three", 8, 1, 2, 0, 4, 5, 3);
        leastIs("three rings of two", 9, 1, 0, 3, 2, 5, 4);
        leastIs("rings of two and of four", 8, 1, 0, 3, 4, 5, 2);
        leastIs("a ring, and one that uses it", 6, 1, 0, 0, -1, -1, -1);
        leastIs("a ring, and all that use it", 6, 1, 0, 0, 1, 0, 1);
        leastIs("two rings, one of them used", 7, 1, 0, 0, 4, 3, -1);
        leastIs("two rings, both used", 6, 1, 0, 0, 4, 3, 3);
        leastIs("a ring, and a row that uses it", 6, 1, 0, 0, 2, 3, 4);
        leastIs("a ring, and own names", 3, 1, 0, 2, 3, 4, 5);
        leastIs("a ring of five, and an own name", 6, 1, 2, 3, 4, 0, 5);
        leastIs("one into another", 1, 1, 1, 2, 3, 4, 5);
    }

    private static void run() {
        section("Promise 20: run");
        sentence("Runs a form: how many numbers were said;", () -> {
            allSay("none", new OnceNamed(1));
            allSay("one", saying(1), 5);
            allSay("six", saying(6), 5, 5, 5, 5, 5, 5);
            OnceNamed x = saying(1);
            x.build();
            x.alter(0, 0, 0, 100);
            says("the program", x, 0, 5);
            says("the form", x, 1, 6);
            says("the form by copies", x, 2, 6);
        });
        sentence("SAID is what was said, also when it fails.", () -> {
            OnceNamed x = saying(2);
            x.step(0, QUOTIENT, 0, 0, 2);
            allFail("by zero", ZERO, x, 5, 5);
            OnceNamed y = saying(5);
            y.step(0, QUOTIENT, 0, 0, 2);
            says("more before", saying(6), 0, 5, 5, 5, 5, 5, 5);
            allFail("by zero", ZERO, y, 5, 5, 5, 5, 5);
            OnceNamed z = new OnceNamed(1);
            z.step(0, QUOTIENT, 0, 0, 0);
            allFail("by zero at once", ZERO, z);
            int[] fifty = new int[50];
            Arrays.fill(fifty, 5);
            OnceNamed limit = saying(6);
            limit.go(0, 0);
            allFail("by limit", STATE, limit, fifty);
            limit.stop(0);
            allSay("and again", limit, 5, 5, 5, 5, 5, 5);
        });
        sentence("IllegalArgumentException: it is not 0 .. 2;", () -> {
            OnceNamed x = saying(1);
            x.build();
            fine("0", () -> x.run(0));
            fine("2", () -> x.run(2));
            int[] none = {-1, 3, MIN, MAX};
            for (int form : none) {
                thrown("" + form, ILLEGAL, () -> x.run(form));
            }
        });
        sentence("UnsupportedOperationException: it is 1 or 2, and no form", () -> {
            noFormNoAnswer(x -> x.run(1));
            noFormNoAnswer(x -> x.run(2));
            says("0 needs none", saying(1), 0, 5);
        });
        sentence("(nothing is changed by these two: SAID stays);", () -> {
            OnceNamed x = saying(2);
            x.run(0);
            x.start(0, 9);
            thrown("1", UNSUPPORTED, () -> x.run(1));
            saidIs("stays", x, 5, 5);
            thrown("2", UNSUPPORTED, () -> x.run(2));
            saidIs("stays", x, 5, 5);
            thrown("3", ILLEGAL, () -> x.run(3));
            saidIs("stays", x, 5, 5);
            x.build();
            thrown("-1", ILLEGAL, () -> x.run(-1));
            saidIs("stays", x, 5, 5);
            due("the form stays", true, x.valid());
            says("changed by a run", x, 1, 9, 9);
        });
        sentence("ArithmeticException: it fails by ZERO;", () -> {
            OnceNamed x = saying(1);
            x.step(0, QUOTIENT, 0, 0, 1);
            x.build();
            says("not by zero", x, 0, 5);
            x.alter(0, 1, 1, 200);
            says("the program", x, 0, 5);
            fails("the form", ZERO, x, 1, 5);
            fails("the form by copies", ZERO, x, 2, 5);
            x.start(1, 0);
            allFail("all", ZERO, x, 5);
        });
        sentence("IllegalStateException: it fails by LIMIT.", () -> {
            OnceNamed x = new OnceNamed(2);
            x.start(0, 1);
            x.fork(0, 1, 0, 1);
            x.build();
            says("not by limit", x, 0);
            x.alter(0, -1, 0, 0);
            says("the program", x, 0);
            fails("the form", STATE, x, 1);
            fails("the form by copies", STATE, x, 2);
            x.start(1, 1);
            allFail("all", STATE, x);
        });
    }

    /** One block that says 5, the start of variable 0, some times; variable 1 starts as 6. */
    private static OnceNamed saying(int times) {
        OnceNamed x = oneBlock(5, 6);
        for (int k = 0; k < times; k++) {
            x.step(0, SAY, 0, 0, 0);
        }
        return x;
    }

    private static void said() {
        section("Promise 21: said");
        sentence("Number i that was said in the latest run, from 0", () -> {
            OnceNamed x = oneBlock(7, 8, 9);
            x.step(0, SAY, 0, 0, 0);
            x.step(0, SAY, 0, 1, 0);
            x.step(0, SAY, 0, 2, 0);
            x.run(0);
            saidIs("three", x, 7, 8, 9);
            x.build();
            x.alter(0, 1, 0, 0);
            saidIs("still", x, 7, 8, 9);
            x.run(1);
            saidIs("the latest", x, 7, 7, 9);
            x.run(0);
            saidIs("the latest", x, 7, 8, 9);
            OnceNamed y = saying(6);
            y.run(0);
            y.go(0, 0);
            thrown("limit", STATE, () -> y.run(0));
            due("the fiftieth", 5, () -> y.said(49));
            y.stop(0);
            y.run(0);
            saidIs("less than before", y, 5, 5, 5, 5, 5, 5);
        });
        sentence("(same() is none).", () -> {
            OnceNamed x = saying(1);
            x.same(0);
            saidIs("nothing yet", x);
            x.run(0);
            x.start(0, 9);
            x.build();
            for (int form = 0; form <= 2; form++) {
                x.same(form);
                saidIs("of the run before", x, 5);
            }
            OnceNamed y = saying(2);
            y.run(0);
            y.step(0, QUOTIENT, 0, 0, 2);
            due("fails alike", true, y.same(0));
            saidIs("of the run before", y, 5, 5);
        });
        sentence("IndexOutOfBoundsException: there is none.", () -> {
            OnceNamed x = saying(2);
            int[] never = {-1, 2, MIN, MAX};
            thrown("before a run", INDEX, () -> x.said(0));
            x.run(0);
            due("the last", 5, () -> x.said(1));
            for (int i : never) {
                thrown("" + i, INDEX, () -> x.said(i));
            }
            OnceNamed y = saying(6);
            y.go(0, 0);
            thrown("limit", STATE, () -> y.run(0));
            due("the fiftieth", 5, () -> y.said(49));
            thrown("the fifty-first", INDEX, () -> y.said(50));
        });
    }

    private static void same() {
        section("Promise 22: same");
        sentence("Whether a form, run, says the same as the program", () -> {
            OnceNamed x = saying(2);
            x.build();
            alike("built", x, true, true);
            x.alter(0, 1, 0, 100);
            alike("another number", x, true, false);
            x.alter(0, 1, 0, 0);
            alike("and back", x, true, true);
            x.alter(0, 0, 0, 100);
            alike("another first number", x, true, false);
            OnceNamed y = twoWays();
            y.step(1, SAY, 0, 0, 0);
            y.step(1, SAY, 0, 0, 0);
            y.step(1, PUT, 1, 1, 0);
            y.step(2, PUT, 1, 1, 0);
            y.build();
            y.alter(0, -1, 0, 500);
            says("the program", y, 0, 1, 1, 1);
            says("the form", y, 1, 1);
            alike("less", y, true, false);
            y.fork(0, 5, 1, 2);
            y.build();
            y.alter(0, -1, 0, 1);
            says("the program", y, 0, 1);
            says("the form", y, 1, 1, 1, 1);
            alike("more", y, true, false);
        });
        sentence("and fails just as that does (both by ZERO, both by LIMIT, or neither).", () -> {
            OnceNamed x = new OnceNamed(2);
            x.start(0, 1);
            x.step(0, QUOTIENT, 2, 0, 1);
            x.fork(0, 3, 0, 1);
            x.build();
            alike("both by zero", x, true, true);
            x.alter(0, 0, 1, 0);
            alike("zero, neither", x, true, false);
            x.alter(0, -1, 0, 0);
            alike("zero, limit", x, true, false);
            x.start(1, 1);
            x.build();
            alike("neither", x, true, true);
            x.alter(0, 0, 1, 400);
            alike("neither, zero", x, true, false);
            x.alter(0, 0, 1, 0);
            x.alter(0, -1, 0, 0);
            alike("neither, limit", x, true, false);
            x.start(3, 1);
            x.build();
            alike("both by limit", x, true, true);
            x.alter(0, -1, 0, 400);
            alike("limit, neither", x, true, false);
            x.alter(0, 0, 1, 400);
            alike("limit, zero", x, true, false);
            bothByZero();
            bothByLimit();
        });
        sentence("IllegalArgumentException: it is not 0 .. 2;", () -> {
            OnceNamed x = saying(1);
            x.build();
            due("0", true, x.same(0));
            due("2", true, x.same(2));
            int[] none = {-1, 3, MIN, MAX};
            for (int form : none) {
                thrown("" + form, ILLEGAL, () -> x.same(form));
            }
        });
        sentence("UnsupportedOperationException: it is 1 or 2, and no form.", () -> {
            noFormNoAnswer(x -> x.same(1));
            noFormNoAnswer(x -> x.same(2));
            due("0 needs none", true, saying(1).same(0));
        });
    }

    private static void alike(String what, OnceNamed x, boolean program, boolean form) {
        due(what + ", the program", program, x.same(0));
        due(what + ", the form", form, x.same(1));
        due(what + ", the form by copies", form, x.same(2));
    }

    /** Both fail by ZERO, but what they say before is not the same. */
    private static void bothByZero() {
        OnceNamed x = saying(1);
        x.step(0, QUOTIENT, 0, 0, 2);
        x.build();
        alike("both by zero", x, true, true);
        x.alter(0, 0, 0, 100);
        alike("both by zero, but after another number", x, true, false);
    }

    /** One comes to too many blocks, the other says too much: both by LIMIT, but not the same. */
    private static void bothByLimit() {
        OnceNamed x = new OnceNamed(3);
        x.start(0, 1);
        x.fork(0, 0, 1, 2);
        x.step(1, SAY, 0, 3, 0);
        x.go(1, 1);
        x.go(2, 2);
        x.build();
        alike("both say too much", x, true, true);
        x.alter(0, -1, 0, 300);
        alike("one says too much, one says nothing", x, true, false);
        x.start(0, 0);
        x.build();
        alike("both come to too many", x, true, true);
    }
}
