import java.util.ArrayList;
import java.util.List;

/** A program of three blocks in several states, and what can be seen of it. */
abstract class World extends Sentences {
    interface On {
        void make(OnceNamed x);
    }

    /** A call that throws, and what. */
    record Wrong(String what, Class<?> kind, On call) { }

    static final int PLAIN = 0;
    static final int FORMED = 1;
    static final int PROPAGATED = 2;
    static final int ALTERED = 3;
    static final int FAILED = 4;
    static final int STATES = 5;

    private static final int BLOCKS = 3;

    /** Block 0 has no steps, 1 has six and leads to itself, 2 has three. It says 2, 1, 1, 0. */
    private static OnceNamed program() {
        OnceNamed x = new OnceNamed(BLOCKS);
        x.start(0, 2);
        x.start(1, 5);
        x.start(2, -1);
        x.go(0, 1);
        x.step(1, SAY, 0, 0, 0);
        x.step(1, SUM, 0, 0, 2);
        x.step(1, COPY, 3, 1, 0);
        x.step(1, COPY, 1, 0, 0);
        x.step(1, DIFFERENCE, 4, 3, 1);
        x.step(1, QUOTIENT, 5, 3, 2);
        x.fork(1, 0, 1, 2);
        x.step(2, COPY, 5, 3, 0);
        x.step(2, SAY, 0, 5, 0);
        x.step(2, SAY, 0, 1, 0);
        x.run(0);
        return x;
    }

    static OnceNamed in(int state) {
        OnceNamed x = program();
        if (state != PLAIN) {
            x.build();
        }
        if (state == PROPAGATED) {
            x.propagate();
        }
        if (state == ALTERED) {
            x.alter(1, 1, 0, x.sets(1, 3));
            x.turn(1, 1, 1, 300);
        }
        if (state == FAILED) {
            x.alter(1, 5, 1, 400);
            failing(x);
        }
        return x;
    }

    private static void failing(OnceNamed x) {
        try {
            x.run(1);
        } catch (ArithmeticException e) {
            return;
        }
        throw new IllegalStateException("the run does not fail");
    }

    static List<Wrong> wrongCalls(int state) {
        List<Wrong> all = new ArrayList<>();
        addWrongOfProgram(all);
        addWrongOfGraph(all);
        if (state == PLAIN) {
            addWrongWithoutForm(all);
        } else {
            addWrongOfForm(all);
            addWrongOfChanges(all);
        }
        if (state == ALTERED) {
            all.add(new Wrong("propagate, not valid", STATE, x -> x.propagate()));
        }
        if (state == PROPAGATED) {
            addWrongOfGone(all);
        }
        int numbers = state == FAILED ? 1 : 4;
        all.add(new Wrong("said -1", INDEX, x -> x.said(-1)));
        all.add(new Wrong("said " + numbers, INDEX, x -> x.said(numbers)));
        return all;
    }

    private static void illegal(List<Wrong> all, String what, On call) {
        all.add(new Wrong(what, ILLEGAL, call));
    }

    private static void addWrongOfProgram(List<Wrong> all) {
        all.add(new Wrong("step 7", STATE, x -> x.step(1, SAY, 0, 0, 0)));
        illegal(all, "step, block -1", x -> x.step(-1, SAY, 0, 0, 0));
        illegal(all, "step, block n", x -> x.step(3, SAY, 0, 0, 0));
        illegal(all, "step, kind -1", x -> x.step(2, -1, 0, 0, 0));
        illegal(all, "step, kind 8", x -> x.step(2, 8, 0, 0, 0));
        illegal(all, "step, v 6", x -> x.step(2, PUT, 6, 0, 0));
        illegal(all, "step, w 1000", x -> x.step(2, PUT, 0, 1000, 0));
        illegal(all, "step, w 6", x -> x.step(2, COPY, 0, 6, 0));
        illegal(all, "step, x 6", x -> x.step(2, SUM, 0, 0, 6));
        illegal(all, "step, w -1", x -> x.step(0, SAY, 0, -1, 0));
        illegal(all, "go from n", x -> x.go(3, 0));
        illegal(all, "go to n", x -> x.go(0, 3));
        illegal(all, "go to -1", x -> x.go(2, -1));
        illegal(all, "fork from n", x -> x.fork(3, 0, 0, 0));
        illegal(all, "fork by 6", x -> x.fork(1, 6, 0, 0));
        illegal(all, "fork to n", x -> x.fork(1, 1, 3, 0));
        illegal(all, "fork to n or else", x -> x.fork(2, 1, 0, 3));
        illegal(all, "stop of n", x -> x.stop(3));
        illegal(all, "stop of -1", x -> x.stop(-1));
        illegal(all, "start of 6", x -> x.start(6, 1));
        illegal(all, "start of -1", x -> x.start(-1, 1));
    }

    private static void addWrongOfGraph(List<Wrong> all) {
        illegal(all, "parent of n", x -> x.parent(3));
        illegal(all, "n dominates", x -> x.dominates(3, 0));
        illegal(all, "dominates n", x -> x.dominates(0, 3));
        illegal(all, "frontier of n", x -> x.frontier(3, 0));
        illegal(all, "frontier has n", x -> x.frontier(0, 3));
        illegal(all, "run -1", x -> x.run(-1));
        illegal(all, "run 3", x -> x.run(3));
        illegal(all, "same -1", x -> x.same(-1));
        illegal(all, "same 3", x -> x.same(3));
    }

    private static void addWrongWithoutForm(List<Wrong> all) {
        On[] calls = formCalls();
        for (int i = 0; i < calls.length; i++) {
            all.add(new Wrong("call " + i + " without a form", UNSUPPORTED, calls[i]));
        }
    }

    /** Each kind of call that needs a form, such as it is in order in all states but ALTERED. */
    private static On[] formCalls() {
        return new On[] {
            x -> x.propagate(),
            x -> x.meeting(1, 0),
            x -> x.source(1, 0, 0),
            x -> x.sets(1, 0),
            x -> x.use(1, 0, 0),
            x -> x.alter(1, 0, 0, 0),
            x -> x.turn(1, 0, 0, 0),
            x -> x.valid(),
            x -> x.copies(1, 0),
            x -> x.same(1),
            x -> x.same(2),
            x -> x.run(1),
            x -> x.run(2)
        };
    }

    private static void addWrongOfForm(List<Wrong> all) {
        illegal(all, "meeting in n", x -> x.meeting(3, 0));
        illegal(all, "meeting of 6", x -> x.meeting(1, 6));
        illegal(all, "source in n", x -> x.source(3, 0, 0));
        illegal(all, "source of 6", x -> x.source(1, 6, 0));
        illegal(all, "source for n + 1", x -> x.source(1, 0, 4));
        illegal(all, "source for -1", x -> x.source(1, 0, -1));
        illegal(all, "sets in n", x -> x.sets(3, 0));
        illegal(all, "sets of no step", x -> x.sets(2, 3));
        illegal(all, "sets of an end", x -> x.sets(2, -1));
        illegal(all, "use in n", x -> x.use(3, -1, 0));
        illegal(all, "use of no step", x -> x.use(2, 3, 0));
        illegal(all, "use of -2", x -> x.use(2, -2, 0));
        illegal(all, "use of which 2", x -> x.use(2, 0, 2));
        illegal(all, "copies in n", x -> x.copies(3, 0));
        illegal(all, "copies from n + 1", x -> x.copies(1, 4));
    }

    private static void addWrongOfChanges(List<Wrong> all) {
        illegal(all, "alter in n", x -> x.alter(3, -1, 0, 0));
        illegal(all, "alter of no step", x -> x.alter(2, 3, 0, 0));
        illegal(all, "alter of -2", x -> x.alter(2, -2, 0, 0));
        illegal(all, "alter of which 2", x -> x.alter(2, 1, 2, 0));
        illegal(all, "alter of no use", x -> x.alter(2, 1, 1, 0));
        illegal(all, "alter of a stop", x -> x.alter(2, -1, 0, 0));
        illegal(all, "alter to no name", x -> x.alter(2, 1, 0, 599));
        illegal(all, "alter to -1", x -> x.alter(1, -1, 0, -1));
        illegal(all, "turn in n", x -> x.turn(3, 0, 0, 0));
        illegal(all, "turn of 6", x -> x.turn(1, 6, 0, 0));
        illegal(all, "turn for n + 1", x -> x.turn(1, 0, 4, 0));
        illegal(all, "turn of no meeting", x -> x.turn(1, 2, 0, 0));
        illegal(all, "turn for no forerunner", x -> x.turn(1, 0, 2, 0));
        illegal(all, "turn to no name", x -> x.turn(1, 0, 0, 99));
        illegal(all, "turn to 600", x -> x.turn(1, 0, 1, 600));
    }

    private static void addWrongOfGone(List<Wrong> all) {
        illegal(all, "alter of a use that is gone", x -> x.alter(2, 0, 0, 0));
        illegal(all, "alter to a name that is gone", x -> x.alter(2, 1, 0, 302));
        illegal(all, "turn to a name that is gone", x -> x.turn(1, 1, 1, 102));
    }

    /** A refused call leaves an object like one on which it was never made. */
    static void refused(int state, Wrong wrong) {
        OnceNamed touched = in(state);
        String what = wrong.what() + " in state " + state;
        thrown(what, wrong.kind(), () -> wrong.call().make(touched));
        dueText("what is seen after " + what, pictureOf(in(state)), pictureOf(touched));
    }

    static void noFormIn(String what, OnceNamed x) {
        On[] calls = formCalls();
        for (int i = 0; i < calls.length; i++) {
            On call = calls[i];
            thrown(what + ", call " + i, UNSUPPORTED, () -> call.make(x));
        }
    }

    static void formIn(String what, OnceNamed x) {
        fine(what + ", valid", () -> x.valid());
        fine(what + ", meeting", () -> x.meeting(1, 0));
        fine(what + ", source", () -> x.source(1, 0, 0));
        fine(what + ", use", () -> x.use(1, 0, 0));
        fine(what + ", same 1", () -> x.same(1));
        fine(what + ", same 2", () -> x.same(2));
    }

    /** All that calls tell; the last part changes the object, so it is of no use after this. */
    private static String pictureOf(OnceNamed x) {
        StringBuilder text = new StringBuilder();
        addSaid(text, x);
        addGraph(text, x);
        addForm(text, x);
        for (int form = 0; form <= 2; form++) {
            int f = form;
            add(text, "run", () -> x.run(f));
            addSaid(text, x);
        }
        add(text, "propagated", () -> x.propagate());
        add(text, "built", () -> x.build());
        addUses(text, x);
        for (int b = 1; b < BLOCKS; b++) {
            int at = b;
            add(text, "step", () -> x.step(at, PUT, 0, 0, 0));
        }
        for (int v = 0; v < 6; v++) {
            int variable = v;
            add(text, "step of 0", () -> x.step(0, SAY, 0, variable, 0));
        }
        x.stop(0);
        add(text, "starts", () -> x.run(0));
        addSaid(text, x);
        return text.toString();
    }

    private static void addSaid(StringBuilder text, OnceNamed x) {
        for (int i = 0; i < 7; i++) {
            int at = i;
            add(text, "said", () -> x.said(at));
        }
    }

    private static void addGraph(StringBuilder text, OnceNamed x) {
        for (int i = 0; i < BLOCKS; i++) {
            int b = i;
            add(text, "parent", () -> x.parent(b));
            for (int j = 0; j < BLOCKS; j++) {
                int c = j;
                add(text, "dominates", () -> x.dominates(b, c) ? 1 : 0);
                add(text, "frontier", () -> x.frontier(b, c) ? 1 : 0);
            }
        }
    }

    private static void addForm(StringBuilder text, OnceNamed x) {
        add(text, "valid", () -> x.valid() ? 1 : 0);
        for (int i = 0; i < BLOCKS; i++) {
            int b = i;
            for (int j = 0; j < 6; j++) {
                int v = j;
                add(text, "meeting", () -> x.meeting(b, v));
                for (int from = 0; from <= BLOCKS; from++) {
                    int p = from;
                    add(text, "source", () -> x.source(b, v, p));
                }
            }
            for (int from = 0; from <= BLOCKS; from++) {
                int p = from;
                add(text, "copies", () -> x.copies(b, p));
            }
        }
        addUses(text, x);
        for (int form = 0; form <= 2; form++) {
            int f = form;
            add(text, "same", () -> x.same(f) ? 1 : 0);
        }
    }

    private static void addUses(StringBuilder text, OnceNamed x) {
        for (int i = 0; i < BLOCKS; i++) {
            int b = i;
            add(text, "end", () -> x.use(b, -1, 0));
            for (int j = 0; j < 6; j++) {
                int k = j;
                add(text, "sets", () -> x.sets(b, k));
                add(text, "w", () -> x.use(b, k, 0));
                add(text, "x", () -> x.use(b, k, 1));
            }
        }
    }

    private static void add(StringBuilder text, String what, Call call) {
        text.append(' ').append(what).append(' ');
        try {
            text.append(call.answer());
        } catch (RuntimeException e) {
            text.append(e.getClass().getSimpleName());
        }
    }
}
