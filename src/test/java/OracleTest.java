import java.util.ArrayList;
import java.util.HashMap;
import java.util.HashSet;
import java.util.List;
import java.util.Map;
import java.util.Random;
import java.util.Set;
import java.util.TreeMap;
import java.util.TreeSet;

/**
 * Long runs of calls, right and wrong ones, each answer held against a plain model that follows
 * the document's words and shares no way of working with the class.
 */
public final class OracleTest {
    private static final int RUNS = 1200;
    private static final int MOST_CALLS = 512;

    private static int wrong = 0;

    public static void main(String[] args) {
        Map<String, Integer> seen = new TreeMap<>();
        for (int seed = 0; seed < RUNS && wrong < 20; seed++) {
            oneRun(seed, seen);
        }
        lookAtCoverage(seen);
        System.out.println(RUNS + " runs, " + wrong + " wrong");
        if (wrong != 0) {
            System.exit(1);
        }
    }

    /** A kind of answer that never came up was not tested. */
    private static void lookAtCoverage(Map<String, Integer> seen) {
        String[] needed = {
            "step IllegalArgumentException", "step IllegalStateException", "go -", "fork -",
            "stop -", "start -", "build number", "propagate 0", "propagate number",
            "propagate IllegalStateException", "propagate UnsupportedOperationException",
            "parent -1", "parent number", "dominates true", "dominates false", "frontier true",
            "frontier false", "meeting -1", "meeting number", "source -1", "source number",
            "sets -1", "sets number", "use -1", "use number", "alter -",
            "alter IllegalArgumentException", "turn -", "turn IllegalArgumentException",
            "valid true", "valid false", "copies 0", "copies number", "run 0", "run number",
            "run ArithmeticException", "run IllegalStateException", "said number",
            "said IndexOutOfBoundsException", "same true", "same false"
        };
        for (String kind : needed) {
            if (seen.getOrDefault(kind, 0) < 20) {
                wrong++;
                System.out.println("too seldom: " + kind + " " + seen.getOrDefault(kind, 0));
            }
        }
    }

    private static void oneRun(int seed, Map<String, Integer> seen) {
        Random random = new Random(seed);
        int n = random.nextInt(12) == 0 ? random.nextInt(20) - 4 : 1 + random.nextInt(12);
        OnceNamed real = new OnceNamed(n);
        Model model = new Model(n);
        List<String> told = new ArrayList<>();
        int calls = 60 + random.nextInt(MOST_CALLS - 60);
        int size = Math.max(1, Math.min(12, n));
        int building = size * (2 + random.nextInt(6));
        for (int i = 0; i < calls; i++) {
            int[] a = pick(random, i < building, size, model);
            String got = answer(new RealFace(real), a);
            String want = answer(model, a);
            told.add(NAMES[a[0]] + " " + java.util.Arrays.toString(a) + " " + got);
            seen.merge(NAMES[a[0]] + " " + kindOf(got), 1, Integer::sum);
            if (!got.equals(want)) {
                wrong++;
                System.out.println("seed " + seed + " n " + n + ": got " + got + ", due " + want);
                for (String line : told) {
                    System.out.println("  " + line);
                }
                return;
            }
        }
    }

    private static String kindOf(String answer) {
        boolean plain = !answer.matches("-?[0-9]+") || answer.equals("0") || answer.equals("-1");
        return plain ? answer : "number";
    }

    private static final String[] NAMES = {
        "step", "go", "fork", "stop", "start", "build", "propagate", "parent", "dominates",
        "frontier", "meeting", "source", "sets", "use", "alter", "turn", "valid", "copies", "run",
        "said", "same"
    };

    /** The number of a call, and its arguments; now and then one of them is out of range. */
    private static int[] pick(Random r, boolean building, int n, Model model) {
        int call = building ? r.nextInt(10) : r.nextInt(NAMES.length * 8);
        int[] buildingCalls = {0, 0, 0, 0, 0, 1, 2, 2, 2, 4};
        if (building) {
            call = buildingCalls[call];
        } else if (call >= NAMES.length) {
            int[] often = {5, 7, 8, 9, 10, 11, 12, 13, 14, 14, 15, 15, 16, 17, 17, 18, 18, 19, 20,
                20, 6};
            call = often[call % often.length];
        }
        if (!building && !model.hasForm() && r.nextInt(3) != 0) {
            call = 5;
        }
        int b = near(r, n);
        int v = near(r, 6);
        switch (call) {
            case 0:
                int kind = r.nextInt(3) == 0 ? 1 : near(r, 8);
                int w = kind == 0 ? (r.nextInt(9) == 0 ? edge(r) : r.nextInt(7) - 2) : near(r, 6);
                return new int[] {call, b, kind, v, w, near(r, 6)};
            case 1:
                return new int[] {call, b, near(r, n)};
            case 2:
                return new int[] {call, b, v, near(r, n), near(r, n)};
            case 4:
                return new int[] {call, v, r.nextInt(5) == 0 ? r.nextInt() : r.nextInt(9) - 3};
            case 8: case 9:
                return new int[] {call, b, near(r, n)};
            case 10:
                return new int[] {call, b, v};
            case 11:
                return new int[] {call, b, v, near(r, n + 1)};
            case 12:
                return new int[] {call, b, near(r, 6)};
            case 13:
                return new int[] {call, b, near(r, 7) - 1, near(r, 2)};
            case 14:
                return new int[] {call, b, near(r, 7) - 1, near(r, 2), anyName(r, model)};
            case 15:
                return new int[] {call, b, v, near(r, n + 1), anyName(r, model)};
            case 17:
                return new int[] {call, b, near(r, n + 1)};
            case 18: case 20:
                return new int[] {call, near(r, 3)};
            case 19:
                return new int[] {call, near(r, r.nextBoolean() ? 3 : 50)};
            default:
                return new int[] {call, b};
        }
    }

    private static int near(Random r, int bound) {
        if (r.nextInt(60) != 0) {
            return r.nextInt(bound);
        }
        return r.nextInt(4) == 0 ? FAR[r.nextInt(FAR.length)] : r.nextInt(bound + 4) - 2;
    }

    /** Some of these would come to a right number if they were cut to fewer bits or multiplied. */
    private static final int[] FAR = {
        Integer.MAX_VALUE, Integer.MIN_VALUE, Integer.MIN_VALUE + 1, 32, 256, 1 << 16, 1 << 31 | 1,
        -6, -32, -256, 715827882, 715827883, 1431655766, -1431655765
    };

    private static int edge(Random r) {
        int[] edges = {999, -999, 1000, -1000, Integer.MAX_VALUE, Integer.MIN_VALUE};
        return edges[r.nextInt(edges.length)];
    }

    private static int anyName(Random r, Model model) {
        List<Integer> names = model.names();
        if (names.isEmpty() || r.nextInt(20) == 0) {
            return r.nextInt(800) - 100;
        }
        return names.get(r.nextInt(names.size()));
    }

    private interface Face {
        long step(int b, int kind, int v, int w, int x);
        void go(int b, int to);
        void fork(int b, int v, int yes, int no);
        void stop(int b);
        void start(int v, int value);
        long build();
        long propagate();
        long parent(int b);
        boolean dominates(int b, int c);
        boolean frontier(int b, int c);
        long meeting(int b, int v);
        long source(int b, int v, int p);
        long sets(int b, int k);
        long use(int b, int k, int which);
        void alter(int b, int k, int which, int name);
        void turn(int b, int v, int p, int name);
        boolean valid();
        long copies(int b, int p);
        long run(int form);
        long said(int i);
        boolean same(int form);
    }

    private static String answer(Face f, int[] a) {
        try {
            switch (a[0]) {
                case 0: return "" + f.step(a[1], a[2], a[3], a[4], a[5]);
                case 1: f.go(a[1], a[2]); return "-";
                case 2: f.fork(a[1], a[2], a[3], a[4]); return "-";
                case 3: f.stop(a[1]); return "-";
                case 4: f.start(a[1], a[2]); return "-";
                case 5: return "" + f.build();
                case 6: return "" + f.propagate();
                case 7: return "" + f.parent(a[1]);
                case 8: return "" + f.dominates(a[1], a[2]);
                case 9: return "" + f.frontier(a[1], a[2]);
                case 10: return "" + f.meeting(a[1], a[2]);
                case 11: return "" + f.source(a[1], a[2], a[3]);
                case 12: return "" + f.sets(a[1], a[2]);
                case 13: return "" + f.use(a[1], a[2], a[3]);
                case 14: f.alter(a[1], a[2], a[3], a[4]); return "-";
                case 15: f.turn(a[1], a[2], a[3], a[4]); return "-";
                case 16: return "" + f.valid();
                case 17: return "" + f.copies(a[1], a[2]);
                case 18: return "" + f.run(a[1]);
                case 19: return "" + f.said(a[1]);
                default: return "" + f.same(a[1]);
            }
        } catch (RuntimeException e) {
            return e.getClass().getSimpleName();
        }
    }

    private static final class RealFace implements Face {
        private final OnceNamed x;

        RealFace(OnceNamed x) {
            this.x = x;
        }

        public long step(int b, int kind, int v, int w, int y) { return x.step(b, kind, v, w, y); }
        public void go(int b, int to) { x.go(b, to); }
        public void fork(int b, int v, int yes, int no) { x.fork(b, v, yes, no); }
        public void stop(int b) { x.stop(b); }
        public void start(int v, int value) { x.start(v, value); }
        public long build() { return x.build(); }
        public long propagate() { return x.propagate(); }
        public long parent(int b) { return x.parent(b); }
        public boolean dominates(int b, int c) { return x.dominates(b, c); }
        public boolean frontier(int b, int c) { return x.frontier(b, c); }
        public long meeting(int b, int v) { return x.meeting(b, v); }
        public long source(int b, int v, int p) { return x.source(b, v, p); }
        public long sets(int b, int k) { return x.sets(b, k); }
        public long use(int b, int k, int which) { return x.use(b, k, which); }
        public void alter(int b, int k, int which, int name) { x.alter(b, k, which, name); }
        public void turn(int b, int v, int p, int name) { x.turn(b, v, p, name); }
        public boolean valid() { return x.valid(); }
        public long copies(int b, int p) { return x.copies(b, p); }
        public long run(int form) { return x.run(form); }
        public long said(int i) { return x.said(i); }
        public boolean same(int form) { return x.same(form); }
    }

    private static final class Step {
        final int kind;
        final int v;
        final int w;
        final int x;

        Step(int kind, int v, int w, int x) {
            this.kind = kind;
            this.v = v;
            this.w = w;
            this.x = x;
        }
    }

    /** Where a use stands: in step k of a block, at its end (END), or in a meeting (MEETING). */
    private record Use(int block, int k, int which, int from) { }

    private record Home(int block, int k) { }

    private record Result(List<Integer> said, String failure) { }

    private static final class Model implements Face {
        private static final int MEETING = -1;
        private static final int END = 6;

        private final int n;
        private final List<List<Step>> steps = new ArrayList<>();
        private final List<int[]> ends = new ArrayList<>();
        private final int[] starts = new int[6];
        private Map<Home, Integer> stepNames;
        private Map<Home, Integer> meetingNames;
        private Map<Integer, Home> homes;
        private Map<Use, Integer> uses;
        private int[] numbers;
        private List<Integer> latest = new ArrayList<>();

        Model(int asked) {
            n = asked < 1 ? 1 : asked > 12 ? 12 : asked;
            for (int b = 0; b < n; b++) {
                steps.add(new ArrayList<>());
                ends.add(new int[] {-1});
            }
        }

        boolean hasForm() {
            return homes != null;
        }

        List<Integer> names() {
            return new ArrayList<>(homes == null ? new TreeSet<>() : new TreeSet<>(homes.keySet()));
        }

        private boolean block(int b) {
            return b >= 0 && b < n;
        }

        private boolean variable(int v) {
            return v >= 0 && v < 6;
        }

        private void illegalUnless(boolean fine) {
            if (!fine) {
                throw new IllegalArgumentException();
            }
        }

        private void needForm() {
            if (homes == null) {
                throw new UnsupportedOperationException();
            }
        }

        public long step(int b, int kind, int v, int w, int x) {
            illegalUnless(block(b) && kind >= 0 && kind <= 7);
            illegalUnless(kind == 7 || variable(v));
            illegalUnless(kind == 0 ? w >= -999 && w <= 999 : variable(w));
            illegalUnless(kind < 2 || kind == 7 || variable(x));
            if (steps.get(b).size() == 6) {
                throw new IllegalStateException();
            }
            steps.get(b).add(new Step(kind, v, w, x));
            homes = null;
            return steps.get(b).size();
        }

        public void go(int b, int to) {
            illegalUnless(block(b) && block(to));
            ends.set(b, new int[] {-1, to});
            homes = null;
        }

        public void fork(int b, int v, int yes, int no) {
            illegalUnless(block(b) && variable(v) && block(yes) && block(no));
            ends.set(b, new int[] {v, yes, no});
            homes = null;
        }

        public void stop(int b) {
            illegalUnless(block(b));
            ends.set(b, new int[] {-1});
            homes = null;
        }

        public void start(int v, int value) {
            illegalUnless(variable(v));
            starts[v] = value;
            homes = null;
        }

        /** n is the entry. */
        private Set<Integer> followers(int b) {
            Set<Integer> all = new TreeSet<>();
            if (b == n) {
                all.add(0);
                return all;
            }
            for (int i = 1; i < ends.get(b).length; i++) {
                all.add(ends.get(b)[i]);
            }
            return all;
        }

        private Set<Integer> reached() {
            Set<Integer> all = new TreeSet<>();
            all.add(n);
            boolean more = true;
            while (more) {
                more = false;
                for (int b : new ArrayList<>(all)) {
                    more |= all.addAll(followers(b));
                }
            }
            return all;
        }

        private Set<Integer> forerunners(int c) {
            Set<Integer> all = new TreeSet<>();
            for (int b : reached()) {
                if (followers(b).contains(c)) {
                    all.add(b);
                }
            }
            return all;
        }

        /** For each reached block those that dominate it, by the equations of the data's flow. */
        private Map<Integer, Set<Integer>> dominators() {
            Set<Integer> reached = reached();
            Map<Integer, Set<Integer>> result = new HashMap<>();
            for (int b : reached) {
                result.put(b, b == n ? new TreeSet<>(List.of(n)) : new TreeSet<>(reached));
            }
            boolean more = true;
            while (more) {
                more = false;
                for (int b : reached) {
                    if (b == n) {
                        continue;
                    }
                    Set<Integer> shared = null;
                    for (int p : forerunners(b)) {
                        if (shared == null) {
                            shared = new TreeSet<>(result.get(p));
                        } else {
                            shared.retainAll(result.get(p));
                        }
                    }
                    shared.add(b);
                    if (!shared.equals(result.get(b))) {
                        result.put(b, shared);
                        more = true;
                    }
                }
            }
            return result;
        }

        public long parent(int b) {
            illegalUnless(block(b));
            Map<Integer, Set<Integer>> dominators = dominators();
            return dominators.containsKey(b) ? parentIn(dominators, b) : -1;
        }

        private int parentIn(Map<Integer, Set<Integer>> dominators, int b) {
            for (int d : dominators.get(b)) {
                if (d != b && dominators.get(d).size() == dominators.get(b).size() - 1) {
                    return d;
                }
            }
            throw new AssertionError();
        }

        private boolean above(Map<Integer, Set<Integer>> dominators, int b, int c) {
            return dominators.containsKey(c) && dominators.get(c).contains(b);
        }

        public boolean dominates(int b, int c) {
            illegalUnless(block(b) && block(c));
            return above(dominators(), b, c);
        }

        public boolean frontier(int b, int c) {
            illegalUnless(block(b) && block(c));
            return frontierIn(dominators(), b, c);
        }

        private boolean frontierIn(Map<Integer, Set<Integer>> dominators, int b, int c) {
            if (!dominators.containsKey(c) || b != c && above(dominators, b, c)) {
                return false;
            }
            for (int p : forerunners(c)) {
                if (above(dominators, b, p)) {
                    return true;
                }
            }
            return false;
        }

        private Set<Integer> meets(Map<Integer, Set<Integer>> dominators, int v) {
            Set<Integer> work = new TreeSet<>();
            Set<Integer> met = new TreeSet<>();
            for (int b : dominators.keySet()) {
                for (int k = 0; b < n && k < steps.get(b).size(); k++) {
                    if (steps.get(b).get(k).kind != 7 && steps.get(b).get(k).v == v) {
                        work.add(b);
                    }
                }
            }
            int before = -1;
            while (before != met.size()) {
                before = met.size();
                for (int b : work) {
                    for (int c = 0; c < n; c++) {
                        if (frontierIn(dominators, b, c)) {
                            met.add(c);
                        }
                    }
                }
                work.addAll(met);
            }
            return met;
        }

        public long build() {
            stepNames = new HashMap<>();
            meetingNames = new HashMap<>();
            homes = new HashMap<>();
            uses = new HashMap<>();
            numbers = new int[6];
            Map<Integer, Set<Integer>> dominators = dominators();
            List<Set<Integer>> meets = new ArrayList<>();
            for (int v = 0; v < 6; v++) {
                name(v, n, MEETING);
                meets.add(meets(dominators, v));
            }
            nameDown(dominators, meets, 0);
            findUses(dominators);
            return homes.size();
        }

        private int name(int v, int b, int k) {
            int name = 100 * v + numbers[v]++;
            homes.put(name, new Home(b, k));
            return name;
        }

        private void nameDown(
                Map<Integer, Set<Integer>> dominators, List<Set<Integer>> meets, int b) {
            for (int v = 0; v < 6; v++) {
                if (meets.get(v).contains(b)) {
                    meetingNames.put(new Home(b, v), name(v, b, MEETING));
                }
            }
            for (int k = 0; k < steps.get(b).size(); k++) {
                if (steps.get(b).get(k).kind != 7) {
                    stepNames.put(new Home(b, k), name(steps.get(b).get(k).v, b, k));
                }
            }
            for (int c = 0; c < n; c++) {
                if (dominators.containsKey(c) && parentIn(dominators, c) == b) {
                    nameDown(dominators, meets, c);
                }
            }
        }

        /** The name that v got last before step k of block b, sought backwards and upwards. */
        private int last(Map<Integer, Set<Integer>> dominators, int v, int b, int k) {
            if (b == n) {
                return 100 * v;
            }
            for (int i = Math.min(k, steps.get(b).size()) - 1; i >= 0; i--) {
                if (steps.get(b).get(i).kind != 7 && steps.get(b).get(i).v == v) {
                    return stepNames.get(new Home(b, i));
                }
            }
            Integer met = meetingNames.get(new Home(b, v));
            return met != null ? met : last(dominators, v, parentIn(dominators, b), END);
        }

        private void findUses(Map<Integer, Set<Integer>> dominators) {
            for (int b : dominators.keySet()) {
                if (b == n) {
                    continue;
                }
                for (int k = 0; k < steps.get(b).size(); k++) {
                    Step s = steps.get(b).get(k);
                    if (s.kind >= 1) {
                        uses.put(new Use(b, k, 0, -1), last(dominators, s.w, b, k));
                    }
                    if (s.kind >= 2 && s.kind <= 6) {
                        uses.put(new Use(b, k, 1, -1), last(dominators, s.x, b, k));
                    }
                }
                if (ends.get(b).length == 3) {
                    uses.put(new Use(b, END, 0, -1), last(dominators, ends.get(b)[0], b, END));
                }
                for (int v = 0; v < 6; v++) {
                    for (int p : forerunners(b)) {
                        if (meetingNames.containsKey(new Home(b, v))) {
                            uses.put(new Use(b, MEETING, v, p), last(dominators, v, p, END));
                        }
                    }
                }
            }
        }

        public boolean valid() {
            needForm();
            Map<Integer, Set<Integer>> dominators = dominators();
            for (Map.Entry<Use, Integer> e : uses.entrySet()) {
                Use u = e.getKey();
                int at = u.k == MEETING ? u.from : u.block;
                int k = u.k == MEETING ? END : u.k;
                Home home = homes.get(e.getValue());
                boolean fine = home.block == n
                        || home.block != at && above(dominators, home.block, at)
                        || home.block == at && home.k < k;
                if (!fine) {
                    return false;
                }
            }
            return true;
        }

        public long propagate() {
            needForm();
            if (!valid()) {
                throw new IllegalStateException();
            }
            Map<Integer, Integer> stands = new HashMap<>();
            Set<Home> gone = new HashSet<>();
            for (Home h : stepNames.keySet()) {
                if (steps.get(h.block).get(h.k).kind == 1) {
                    stands.put(stepNames.get(h), uses.get(new Use(h.block, h.k, 0, -1)));
                    gone.add(h);
                }
            }
            for (Home h : gone) {
                uses.remove(new Use(h.block, h.k, 0, -1));
                homes.remove(stepNames.remove(h));
            }
            for (Use u : uses.keySet()) {
                while (stands.containsKey(uses.get(u))) {
                    uses.put(u, stands.get(uses.get(u)));
                }
            }
            return gone.size();
        }

        public long meeting(int b, int v) {
            needForm();
            illegalUnless(block(b) && variable(v));
            return meetingNames.getOrDefault(new Home(b, v), -1);
        }

        public long source(int b, int v, int p) {
            needForm();
            illegalUnless(block(b) && variable(v) && p >= 0 && p <= n);
            return uses.getOrDefault(new Use(b, MEETING, v, p), -1);
        }

        public long sets(int b, int k) {
            needForm();
            illegalUnless(block(b) && k >= 0 && k < steps.get(b).size());
            return stepNames.getOrDefault(new Home(b, k), -1);
        }

        private Use useAt(int b, int k, int which) {
            return k == -1 ? new Use(b, END, 0, -1) : new Use(b, k, which, -1);
        }

        public long use(int b, int k, int which) {
            needForm();
            illegalUnless(block(b) && k >= -1 && k < steps.get(b).size());
            illegalUnless(k == -1 || which == 0 || which == 1);
            return uses.getOrDefault(useAt(b, k, which), -1);
        }

        public void alter(int b, int k, int which, int name) {
            illegalUnless(use(b, k, which) != -1 && homes.containsKey(name));
            uses.put(useAt(b, k, which), name);
        }

        public void turn(int b, int v, int p, int name) {
            illegalUnless(source(b, v, p) != -1 && homes.containsKey(name));
            uses.put(new Use(b, MEETING, v, p), name);
        }

        /** One for each meeting that changes, and one for each ring that none outside reads. */
        public long copies(int b, int p) {
            needForm();
            illegalUnless(block(b) && p >= 0 && p <= n);
            Map<Integer, Integer> moves = new TreeMap<>();
            for (int v = 0; v < 6; v++) {
                long from = source(b, v, p);
                if (from != -1 && from != meeting(b, v)) {
                    moves.put((int) meeting(b, v), (int) from);
                }
            }
            int count = moves.size();
            Set<Set<Integer>> rings = new HashSet<>();
            for (int to : moves.keySet()) {
                Set<Integer> ring = new TreeSet<>();
                Integer at = to;
                while (at != null && ring.add(at)) {
                    at = moves.get(at);
                }
                if (at != null && at == to) {
                    rings.add(ring);
                }
            }
            for (Set<Integer> ring : rings) {
                boolean alone = true;
                for (int to : moves.keySet()) {
                    alone &= ring.contains(to) || !ring.contains(moves.get(to));
                }
                count += alone ? 1 : 0;
            }
            return count;
        }

        private void needRunnable(int form) {
            illegalUnless(form >= 0 && form <= 2);
            if (form != 0) {
                needForm();
            }
        }

        public long run(int form) {
            needRunnable(form);
            Result result = perform(form != 0);
            latest = result.said;
            if (result.failure.equals("zero")) {
                throw new ArithmeticException();
            }
            if (result.failure.equals("limit")) {
                throw new IllegalStateException();
            }
            return latest.size();
        }

        public long said(int i) {
            if (i < 0 || i >= latest.size()) {
                throw new IndexOutOfBoundsException();
            }
            return latest.get(i);
        }

        public boolean same(int form) {
            needRunnable(form);
            return perform(false).equals(perform(form != 0));
        }

        /** Variables are their own names when the program itself is run. */
        private Result perform(boolean named) {
            Map<Integer, Integer> values = new HashMap<>();
            for (int v = 0; v < 6; v++) {
                values.put(named ? 100 * v : v, starts[v]);
            }
            List<Integer> said = new ArrayList<>();
            int from = n;
            int at = 0;
            int come = 0;
            while (true) {
                if (++come == 101) {
                    return new Result(said, "limit");
                }
                if (named) {
                    meet(values, at, from);
                }
                for (int k = 0; k < steps.get(at).size(); k++) {
                    String failure = perform(named, values, said, at, k);
                    if (!failure.isEmpty()) {
                        return new Result(said, failure);
                    }
                }
                int[] end = ends.get(at);
                if (end.length == 1) {
                    return new Result(said, "");
                }
                from = at;
                int by = end.length == 2 ? -1 : named ? uses.get(new Use(at, END, 0, -1)) : end[0];
                at = end.length == 2 || values.getOrDefault(by, 0) != 0 ? end[1] : end[2];
            }
        }

        private void meet(Map<Integer, Integer> values, int b, int from) {
            Map<Integer, Integer> old = new HashMap<>(values);
            for (int v = 0; v < 6; v++) {
                Integer name = meetingNames.get(new Home(b, v));
                if (name != null) {
                    values.put(name, old.getOrDefault(uses.get(new Use(b, MEETING, v, from)), 0));
                }
            }
        }

        private String perform(
                boolean named, Map<Integer, Integer> values, List<Integer> said, int b, int k) {
            Step s = steps.get(b).get(k);
            if (named && s.kind == 1 && !stepNames.containsKey(new Home(b, k))) {
                return "";
            }
            int to = named ? stepNames.getOrDefault(new Home(b, k), -1) : s.v;
            int first = named ? uses.getOrDefault(new Use(b, k, 0, -1), -1) : s.w;
            int second = named ? uses.getOrDefault(new Use(b, k, 1, -1), -1) : s.x;
            long w = values.getOrDefault(first, 0);
            long x = values.getOrDefault(second, 0);
            switch (s.kind) {
                case 0: values.put(to, s.w); return "";
                case 1: values.put(to, (int) w); return "";
                case 2: values.put(to, (int) (w + x)); return "";
                case 3: values.put(to, (int) (w - x)); return "";
                case 4: values.put(to, (int) (w * x)); return "";
                case 5:
                    if (x == 0) {
                        return "zero";
                    }
                    values.put(to, (int) (w / x));
                    return "";
                case 6: values.put(to, w < x ? 1 : 0); return "";
                default:
                    if (said.size() == 50) {
                        return "limit";
                    }
                    said.add((int) w);
                    return "";
            }
        }
    }
}
