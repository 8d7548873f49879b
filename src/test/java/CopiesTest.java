import java.util.ArrayDeque;
import java.util.Arrays;
import java.util.HashMap;
import java.util.List;
import java.util.Map;

/**
 * Every way in which meetings of a block can use one another's names: the number of copies is held
 * against a search through all rows of copies, and what the two named forms say against each other.
 */
public final class CopiesTest {
    private static final int SAY = 7;
    private static final int PUT = 0;

    private static int wrong = 0;

    public static void main(String[] args) {
        int cases = 0;
        for (int meetings = 1; meetings <= 4; meetings++) {
            cases += allOf(meetings);
        }
        cases += allOfSix();
        sixInThreeRings();
        System.out.println(cases + " cases, " + wrong + " wrong");
        if (wrong != 0) {
            System.exit(1);
        }
    }

    /** Source i of a case is the meeting of variable i, or the entry's name when i is the last. */
    private static int allOf(int meetings) {
        OnceNamed x = null;
        int cases = 1;
        for (int i = 0; i < meetings; i++) {
            cases *= meetings + 1;
        }
        for (int c = 0; c < cases; c++) {
            // An object is for 512 calls, so a new one is made for each case.
            x = loop(meetings);
            int[] sources = new int[meetings];
            int rest = c;
            for (int i = 0; i < meetings; i++) {
                sources[i] = rest % (meetings + 1);
                rest /= meetings + 1;
                x.turn(1, i, 2, sources[i] == meetings ? 500 : x.meeting(1, sources[i]));
            }
            int want = fewest(sources);
            if (x.copies(1, 2) != want) {
                tell(Arrays.toString(sources) + " answered " + x.copies(1, 2) + ", due " + want);
            }
            if (!saidBy(x, 1).equals(saidBy(x, 2))) {
                tell(Arrays.toString(sources) + " by copies said " + saidBy(x, 2));
            }
        }
        return cases;
    }

    private static void tell(String text) {
        wrong++;
        System.out.println(text);
    }

    /** Block 1 says the first variables again and again; they meet in it, as 2 sets them. */
    private static OnceNamed loop(int meetings) {
        OnceNamed x = new OnceNamed(3);
        x.start(5, 50);
        x.go(0, 1);
        for (int v = 0; v < meetings; v++) {
            x.start(v, 10 + v);
            x.step(1, SAY, 0, v, 0);
            x.step(2, PUT, v, 0, 0);
        }
        x.fork(1, 5, 2, 0);
        x.go(2, 1);
        x.build();
        return x;
    }

    private static String saidBy(OnceNamed x, int form) {
        StringBuilder text = new StringBuilder();
        try {
            x.run(form);
            text.append("ended");
        } catch (IllegalStateException e) {
            text.append("limit");
        }
        for (int i = 0; i < 30; i++) {
            try {
                text.append(' ').append(x.said(i));
            } catch (IndexOutOfBoundsException e) {
                text.append(" none");
            }
        }
        return text.toString();
    }

    /** Places are the meetings, a name of the entry, and one besides; a state is who holds what. */
    private static int fewest(int[] sources) {
        int meetings = sources.length;
        int places = meetings + 2;
        int[] first = new int[places];
        for (int i = 0; i < places; i++) {
            first[i] = i;
        }
        Map<List<Integer>, Integer> far = new HashMap<>();
        ArrayDeque<int[]> waiting = new ArrayDeque<>();
        far.put(asList(first), 0);
        waiting.add(first);
        while (true) {
            int[] state = waiting.remove();
            int copies = far.get(asList(state));
            if (isSet(state, sources)) {
                return copies;
            }
            for (int to = 0; to < places; to++) {
                for (int from = 0; to != meetings && from < places; from++) {
                    int[] next = state.clone();
                    next[to] = state[from];
                    if (far.putIfAbsent(asList(next), copies + 1) == null) {
                        waiting.add(next);
                    }
                }
            }
        }
    }

    private static boolean isSet(int[] state, int[] sources) {
        for (int i = 0; i < sources.length; i++) {
            if (state[i] != sources[i]) {
                return false;
            }
        }
        return true;
    }

    private static List<Integer> asList(int[] row) {
        return Arrays.stream(row).boxed().toList();
    }

    /** Block 0 says all six variables again and again; they meet in it, as 1 sets them. */
    private static OnceNamed sixLoop() {
        OnceNamed x = new OnceNamed(2);
        for (int v = 0; v < 6; v++) {
            x.start(v, 10 + v);
            x.step(0, SAY, 0, v, 0);
            x.step(1, PUT, v, 0, 0);
        }
        x.go(0, 1);
        x.go(1, 0);
        x.build();
        return x;
    }

    /** All cases of six meetings, by one search; a number in base 8 tells who holds what. */
    private static int allOfSix() {
        byte[] far = farFromFirst();
        int cases = 7 * 7 * 7 * 7 * 7 * 7;
        OnceNamed x = null;
        for (int c = 0; c < cases; c++) {
            // A case makes at most 14 calls, and an object is for 512.
            if (c % 20 == 0) {
                x = sixLoop();
            }
            int[] sources = new int[6];
            int target = 0;
            int rest = c;
            for (int v = 0; v < 6; v++) {
                sources[v] = rest % 7;
                target |= sources[v] << 3 * v;
                rest /= 7;
                x.turn(0, v, 1, sources[v] == 6 ? 500 : x.meeting(0, sources[v]));
            }
            if (x.copies(0, 1) != far[target]) {
                tell(Arrays.toString(sources) + " answered " + x.copies(0, 1)
                        + ", due " + far[target]);
            }
        }
        return cases;
    }

    /**
     * The fewest copies to each state of the six meetings, whatever the place besides holds. Who
     * holds it: 0 to 5 a meeting's old value, 6 the entry's, 7 that of the place besides.
     */
    private static byte[] farFromFirst() {
        byte[] far = new byte[1 << 21];
        Arrays.fill(far, (byte) -1);
        int[] row = new int[1 << 21];
        int first = 0;
        for (int place = 0; place < 6; place++) {
            first |= place << 3 * place;
        }
        first |= 7 << 18;
        far[first] = 0;
        row[0] = first;
        int size = 1;
        for (int i = 0; i < size; i++) {
            for (int to = 0; to < 7; to++) {
                for (int from = 0; from < 8; from++) {
                    int value = from == 7 ? 6 : row[i] >> 3 * from & 7;
                    int next = row[i] & ~(7 << 3 * to) | value << 3 * to;
                    if (far[next] < 0) {
                        far[next] = (byte) (far[row[i]] + 1);
                        row[size] = next;
                        size++;
                    }
                }
            }
        }
        return leastOverBesides(far);
    }

    private static byte[] leastOverBesides(byte[] far) {
        byte[] least = new byte[1 << 18];
        Arrays.fill(least, Byte.MAX_VALUE);
        for (int state = 0; state < far.length; state++) {
            int meetings = state & (1 << 18) - 1;
            if (far[state] >= 0 && far[state] < least[meetings]) {
                least[meetings] = far[state];
            }
        }
        return least;
    }

    private static void sixInThreeRings() {
        OnceNamed x = sixLoop();
        for (int v = 0; v < 6; v++) {
            x.turn(0, v, 1, x.meeting(0, v ^ 1));
        }
        if (x.copies(0, 1) != 9) {
            tell("three swaps answered " + x.copies(0, 1) + ", due 9");
        }
        if (!saidBy(x, 1).equals(saidBy(x, 2))) {
            tell("three swaps by copies said " + saidBy(x, 2));
        }
        for (int v = 0; v < 6; v++) {
            x.turn(0, v, 1, x.meeting(0, (v + 1) % 6));
        }
        if (x.copies(0, 1) != 7) {
            tell("a ring of six answered " + x.copies(0, 1) + ", due 7");
        }
        String said = saidBy(x, 2);
        if (!said.startsWith("limit 10 11 12 13 14 15 11 12 13 14 15 10 12 13")) {
            tell("a ring of six by copies said " + said);
        }
        for (int v = 0; v < 6; v++) {
            x.turn(0, v, 1, x.meeting(0, 3));
        }
        if (x.copies(0, 1) != 5) {
            tell("one for all answered " + x.copies(0, 1) + ", due 5");
        }
    }
}
