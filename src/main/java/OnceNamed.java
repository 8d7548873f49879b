import java.util.Arrays;

/**
 * Small programs of blocks, their dominators, and their form in which every name is set in one
 * place alone.
 */
public final class OnceNamed {
    private static final int MOST_BLOCKS = 12;
    private static final int MOST_STEPS = 6;
    private static final int VARIABLES = 6;
    private static final int KINDS = 8;
    private static final int LARGEST_NUMBER = 999;

    /** No block, no name, no variable: whatever is asked for, there is none. */
    private static final int NONE = -1;

    /** The step number by which a caller asks for the use of a block's end. */
    private static final int END = -1;

    private final int blocks;
    private final Program program;
    private final Graph graph;
    private final NamedForm named;
    private final CopyPlan plan;
    private final Runner runner;
    private final Talk latest;
    private final Talk talkOfProgram;
    private final Talk talkOfForm;
    private boolean formStands;

    public OnceNamed(int n) {
        blocks = Math.max(1, Math.min(MOST_BLOCKS, n));
        program = new Program(blocks);
        graph = new Graph(blocks);
        named = new NamedForm(program, graph);
        plan = new CopyPlan();
        runner = new Runner(program, named, plan);
        latest = new Talk();
        talkOfProgram = new Talk();
        talkOfForm = new Talk();
        formStands = false;
        graph.survey(program);
    }

    public int step(int b, int kind, int v, int w, int x)
            throws IllegalArgumentException, IllegalStateException {
        requireBlock(b);
        requireStepParts(kind, v, w, x);
        if (program.stepsOf(b) >= MOST_STEPS) {
            throw new IllegalStateException("the block has all its steps");
        }
        program.addStep(b, kind, v, w, x);
        formStands = false;
        return program.stepsOf(b);
    }

    public void go(int b, int to) throws IllegalArgumentException {
        requireBlock(b);
        requireBlock(to);
        giveEnd(b, NONE, to, to);
    }

    public void fork(int b, int v, int yes, int no) throws IllegalArgumentException {
        requireBlock(b);
        requireVariable(v);
        requireBlock(yes);
        requireBlock(no);
        giveEnd(b, v, yes, no);
    }

    public void stop(int b) throws IllegalArgumentException {
        requireBlock(b);
        giveEnd(b, NONE, NONE, NONE);
    }

    public void start(int v, int value) throws IllegalArgumentException {
        requireVariable(v);
        program.changeStart(v, value);
        formStands = false;
    }

    public int build() {
        formStands = true;
        return named.assemble();
    }

    public int propagate() throws UnsupportedOperationException, IllegalStateException {
        requireForm();
        if (!named.isSound()) {
            throw new IllegalStateException("the form is not valid");
        }
        return named.dropCopies();
    }

    public int parent(int b) throws IllegalArgumentException {
        requireBlock(b);
        return graph.parentOf(b);
    }

    public boolean dominates(int b, int c) throws IllegalArgumentException {
        requireBlock(b);
        requireBlock(c);
        return graph.hasBelow(b, c);
    }

    public boolean frontier(int b, int c) throws IllegalArgumentException {
        requireBlock(b);
        requireBlock(c);
        return has(graph.frontierOf(b), c);
    }

    public int meeting(int b, int v)
            throws UnsupportedOperationException, IllegalArgumentException {
        requireForm();
        requireBlock(b);
        requireVariable(v);
        return named.meetingName(b, v);
    }

    public int source(int b, int v, int p)
            throws UnsupportedOperationException, IllegalArgumentException {
        requireForm();
        requireMeetingUse(b, v, p);
        return named.meetingUse(b, v, p);
    }

    public int sets(int b, int k)
            throws UnsupportedOperationException, IllegalArgumentException {
        requireForm();
        requireBlock(b);
        requireStep(b, k);
        return named.nameSet(b, k);
    }

    public int use(int b, int k, int which)
            throws UnsupportedOperationException, IllegalArgumentException {
        requireForm();
        requireUse(b, k, which);
        return nameUsed(b, k, which);
    }

    public void alter(int b, int k, int which, int name)
            throws UnsupportedOperationException, IllegalArgumentException {
        requireForm();
        requireUse(b, k, which);
        requireThere(nameUsed(b, k, which));
        requireName(name);
        if (k == END) {
            named.changeEndUse(b, name);
        } else {
            named.changeStepUse(b, k, which, name);
        }
    }

    public void turn(int b, int v, int p, int name)
            throws UnsupportedOperationException, IllegalArgumentException {
        requireForm();
        requireMeetingUse(b, v, p);
        requireThere(named.meetingUse(b, v, p));
        requireName(name);
        named.changeMeetingUse(b, v, p, name);
    }

    public boolean valid() throws UnsupportedOperationException {
        requireForm();
        return named.isSound();
    }

    public int copies(int b, int p)
            throws UnsupportedOperationException, IllegalArgumentException {
        requireForm();
        requireBlock(b);
        requireBlockOrEntry(p);
        plan.draw(named, b, p);
        return plan.length();
    }

    public int run(int form)
            throws IllegalArgumentException, UnsupportedOperationException,
                    ArithmeticException, IllegalStateException {
        requireRunnable(form);
        runner.perform(form, latest);
        if (latest.outcome() == Talk.ZERO) {
            throw new ArithmeticException("a quotient by 0 is wanted");
        }
        if (latest.outcome() == Talk.LIMIT) {
            throw new IllegalStateException("too many blocks are come to, or too much is said");
        }
        return latest.size();
    }

    public int said(int i) throws IndexOutOfBoundsException {
        if (i < 0 || i >= latest.size()) {
            throw new IndexOutOfBoundsException("no such number was said");
        }
        return latest.number(i);
    }

    public boolean same(int form)
            throws IllegalArgumentException, UnsupportedOperationException {
        requireRunnable(form);
        runner.perform(Runner.PROGRAM, talkOfProgram);
        runner.perform(form, talkOfForm);
        return talkOfProgram.isLike(talkOfForm);
    }

    private void giveEnd(int b, int variable, int yes, int no) {
        program.changeEnd(b, variable, yes, no);
        graph.survey(program);
        formStands = false;
    }

    private int nameUsed(int b, int k, int which) {
        return k == END ? named.endUse(b) : named.stepUse(b, k, which);
    }

    private void requireBlock(int b) {
        if (b < 0 || b >= blocks) {
            throw new IllegalArgumentException("no such block");
        }
    }

    private void requireBlockOrEntry(int p) {
        if (p < 0 || p > blocks) {
            throw new IllegalArgumentException("neither a block nor the entry");
        }
    }

    private static void requireVariable(int v) {
        if (v < 0 || v >= VARIABLES) {
            throw new IllegalArgumentException("no such variable");
        }
    }

    private static void requireStepParts(int kind, int v, int w, int x) {
        if (kind < 0 || kind >= KINDS) {
            throw new IllegalArgumentException("no such kind");
        }
        if (kind == Program.PUT && (w < -LARGEST_NUMBER || w > LARGEST_NUMBER)) {
            throw new IllegalArgumentException("the number is out of range");
        }
        if (Program.setsVariable(kind)) {
            requireVariable(v);
        }
        if (Program.usesFirst(kind)) {
            requireVariable(w);
        }
        if (Program.usesSecond(kind)) {
            requireVariable(x);
        }
    }

    private void requireStep(int b, int k) {
        if (k < 0 || k >= program.stepsOf(b)) {
            throw new IllegalArgumentException("no such step");
        }
    }

    private void requireUse(int b, int k, int which) {
        requireBlock(b);
        if (k == END) {
            return;
        }
        requireStep(b, k);
        if (which != 0 && which != 1) {
            throw new IllegalArgumentException("which is neither 0 nor 1");
        }
    }

    private void requireMeetingUse(int b, int v, int p) {
        requireBlock(b);
        requireVariable(v);
        requireBlockOrEntry(p);
    }

    private static void requireThere(int use) {
        if (use == NONE) {
            throw new IllegalArgumentException("no such use");
        }
    }

    private void requireName(int name) {
        if (!named.hasName(name)) {
            throw new IllegalArgumentException("no such name");
        }
    }

    private void requireForm() {
        if (!formStands) {
            throw new UnsupportedOperationException("no form");
        }
    }

    private void requireRunnable(int form) {
        if (form < Runner.PROGRAM || form > Runner.BY_COPIES) {
            throw new IllegalArgumentException("no such form");
        }
        if (form != Runner.PROGRAM) {
            requireForm();
        }
    }

    /** Whether a set of blocks, one bit for each, has a block. */
    private static boolean has(int set, int b) {
        return (set >> b & 1) != 0;
    }

    /** The program as it was given: steps, ends and starts. */
    private static final class Program {
        static final int PUT = 0;
        static final int COPY = 1;
        static final int SUM = 2;
        static final int DIFFERENCE = 3;
        static final int PRODUCT = 4;
        static final int QUOTIENT = 5;
        static final int LESS = 6;
        static final int SAY = 7;

        private final int blocks;
        private final int[] stepCount;
        private final int[] kind;
        private final int[] target;
        private final int[] first;
        private final int[] second;
        private final int[] forkVariable;
        private final int[] yes;
        private final int[] no;
        private final int[] starts;

        Program(int blocks) {
            this.blocks = blocks;
            stepCount = new int[blocks];
            kind = new int[blocks * MOST_STEPS];
            target = new int[blocks * MOST_STEPS];
            first = new int[blocks * MOST_STEPS];
            second = new int[blocks * MOST_STEPS];
            forkVariable = new int[blocks];
            yes = new int[blocks];
            no = new int[blocks];
            starts = new int[VARIABLES];
            Arrays.fill(forkVariable, NONE);
            Arrays.fill(yes, NONE);
            Arrays.fill(no, NONE);
        }

        static boolean setsVariable(int kind) {
            return kind != SAY;
        }

        static boolean usesFirst(int kind) {
            return kind != PUT;
        }

        static boolean usesSecond(int kind) {
            return kind >= SUM && kind <= LESS;
        }

        int blockCount() {
            return blocks;
        }

        int stepsOf(int b) {
            return stepCount[b];
        }

        void addStep(int b, int newKind, int v, int w, int x) {
            int at = b * MOST_STEPS + stepCount[b];
            kind[at] = newKind;
            target[at] = v;
            first[at] = w;
            second[at] = x;
            stepCount[b]++;
        }

        void changeEnd(int b, int variable, int ifNotZero, int ifZero) {
            forkVariable[b] = variable;
            yes[b] = ifNotZero;
            no[b] = ifZero;
        }

        void changeStart(int v, int value) {
            starts[v] = value;
        }

        int startOf(int v) {
            return starts[v];
        }

        int kindOf(int b, int k) {
            return kind[b * MOST_STEPS + k];
        }

        int numberPut(int b, int k) {
            return first[b * MOST_STEPS + k];
        }

        int variableSet(int b, int k) {
            int at = b * MOST_STEPS + k;
            return setsVariable(kind[at]) ? target[at] : NONE;
        }

        int firstVariable(int b, int k) {
            int at = b * MOST_STEPS + k;
            return usesFirst(kind[at]) ? first[at] : NONE;
        }

        int secondVariable(int b, int k) {
            int at = b * MOST_STEPS + k;
            return usesSecond(kind[at]) ? second[at] : NONE;
        }

        int variableOfFork(int b) {
            return forkVariable[b];
        }

        /** The block that comes after b, given whether its fork's variable is 0; NONE: it stops. */
        int blockAfter(int b, boolean zero) {
            return zero ? no[b] : yes[b];
        }

        int followers(int b) {
            return yes[b] == NONE ? 0 : 1 << yes[b] | 1 << no[b];
        }

        boolean setsInBlock(int b, int v) {
            for (int k = 0; k < stepCount[b]; k++) {
                if (variableSet(b, k) == v) {
                    return true;
                }
            }
            return false;
        }
    }

    /** Which blocks are reached, and how they dominate one another. Sets of blocks are bits. */
    private static final class Graph {
        private final int blocks;
        private final int[] forerunners;
        private final int[] below;
        private final int[] frontiers;
        private final int[] parents;
        private final int[] order;
        private final int[] waiting;
        private int orderSize;
        private int reached;

        Graph(int blocks) {
            this.blocks = blocks;
            forerunners = new int[blocks];
            below = new int[blocks];
            frontiers = new int[blocks];
            parents = new int[blocks];
            order = new int[blocks];
            waiting = new int[blocks];
        }

        void survey(Program program) {
            reached = reachedWithout(program, NONE);
            findForerunners(program);
            for (int b = 0; b < blocks; b++) {
                below[b] = reached & ~reachedWithout(program, b);
            }
            for (int b = 0; b < blocks; b++) {
                parents[b] = has(reached, b) ? nearestAbove(b) : NONE;
                frontiers[b] = findFrontier(b);
            }
            findOrder();
        }

        /** A block dominates just those that can't be come to any more when it is left out. */
        private int reachedWithout(Program program, int leftOut) {
            int allowed = leftOut == NONE ? -1 : ~(1 << leftOut);
            int seen = 1 & allowed;
            for (int round = 0; round < blocks; round++) {
                int before = seen;
                for (int b = 0; b < blocks; b++) {
                    if (has(seen, b)) {
                        seen |= program.followers(b) & allowed;
                    }
                }
                if (seen == before) {
                    break;
                }
            }
            return seen;
        }

        private void findForerunners(Program program) {
            Arrays.fill(forerunners, 0);
            forerunners[0] = 1 << blocks;
            for (int p = 0; p < blocks; p++) {
                int followers = has(reached, p) ? program.followers(p) : 0;
                for (int b = 0; b < blocks; b++) {
                    if (has(followers, b)) {
                        forerunners[b] |= 1 << p;
                    }
                }
            }
        }

        /** Those that strictly dominate a block are a chain: the nearest has the fewest below. */
        private int nearestAbove(int c) {
            int nearest = blocks;
            int fewest = blocks + 1;
            for (int b = 0; b < blocks; b++) {
                int size = Integer.bitCount(below[b]);
                if (b != c && has(below[b], c) && size < fewest) {
                    nearest = b;
                    fewest = size;
                }
            }
            return nearest;
        }

        private int findFrontier(int b) {
            int found = 0;
            int strictlyBelow = below[b] & ~(1 << b);
            for (int c = 0; c < blocks; c++) {
                if ((below[b] & forerunners[c]) != 0 && !has(strictlyBelow, c)) {
                    found |= 1 << c;
                }
            }
            return found;
        }

        /** Children wait with the lowest number on top, so that it comes next with all below it. */
        private void findOrder() {
            orderSize = 0;
            waiting[0] = 0;
            int top = 1;
            for (int turn = 0; turn < blocks && top > 0; turn++) {
                top--;
                int b = waiting[top];
                order[orderSize] = b;
                orderSize++;
                for (int c = blocks - 1; c >= 0; c--) {
                    if (parents[c] == b) {
                        waiting[top] = c;
                        top++;
                    }
                }
            }
        }

        int parentOf(int b) {
            return parents[b];
        }

        boolean hasBelow(int b, int c) {
            return has(below[b], c);
        }

        int frontierOf(int b) {
            return frontiers[b];
        }

        int frontierOfAll(int set) {
            int all = 0;
            for (int b = 0; b < blocks; b++) {
                if (has(set, b)) {
                    all |= frontiers[b];
                }
            }
            return all;
        }

        boolean leadsTo(int p, int b) {
            return has(forerunners[b], p);
        }

        int reachedCount() {
            return orderSize;
        }

        /** The reached blocks from the entry on, each one before those whose parent it is. */
        int inOrder(int i) {
            return order[i];
        }
    }

    /** The form in which every name is set in one place alone. */
    private static final class NamedForm {
        private static final int NAMES_OF_ONE = 100;
        private static final int ALL_NAMES = NAMES_OF_ONE * VARIABLES;

        /** A meeting is set before all steps of its block, and an end uses after all of them. */
        private static final int BEFORE_STEPS = -1;
        private static final int AFTER_STEPS = MOST_STEPS;

        private final Program program;
        private final Graph graph;
        private final int entry;
        private final int[] meetingNames;
        private final int[] meetingUses;
        private final int[] stepNames;
        private final int[] firstUses;
        private final int[] secondUses;
        private final int[] endUses;
        private final int[] lastNames;
        private final int[] namesOf;
        private final int[] homeBlock;
        private final int[] homePlace;
        private final int[] standsFor;

        NamedForm(Program program, Graph graph) {
            this.program = program;
            this.graph = graph;
            entry = program.blockCount();
            meetingNames = new int[entry * VARIABLES];
            meetingUses = new int[entry * VARIABLES * (entry + 1)];
            stepNames = new int[entry * MOST_STEPS];
            firstUses = new int[entry * MOST_STEPS];
            secondUses = new int[entry * MOST_STEPS];
            endUses = new int[entry];
            lastNames = new int[(entry + 1) * VARIABLES];
            namesOf = new int[VARIABLES];
            homeBlock = new int[ALL_NAMES];
            homePlace = new int[ALL_NAMES];
            standsFor = new int[ALL_NAMES];
        }

        /** Names the whole program anew and answers how many names there are. */
        int assemble() {
            forgetAll();
            for (int v = 0; v < VARIABLES; v++) {
                newName(v, entry, BEFORE_STEPS);
            }
            for (int i = 0; i < graph.reachedCount(); i++) {
                nameBlock(graph.inOrder(i));
            }
            findMeetingUses();
            int count = 0;
            for (int v = 0; v < VARIABLES; v++) {
                count += namesOf[v];
            }
            return count;
        }

        private void forgetAll() {
            Arrays.fill(meetingNames, NONE);
            Arrays.fill(meetingUses, NONE);
            Arrays.fill(stepNames, NONE);
            Arrays.fill(firstUses, NONE);
            Arrays.fill(secondUses, NONE);
            Arrays.fill(endUses, NONE);
            Arrays.fill(namesOf, 0);
            Arrays.fill(homeBlock, NONE);
            for (int v = 0; v < VARIABLES; v++) {
                markMeetings(v);
            }
        }

        /** The names come later, in the order of the blocks; until then a mark holds their room. */
        private void markMeetings(int v) {
            int setting = 0;
            for (int i = 0; i < graph.reachedCount(); i++) {
                int b = graph.inOrder(i);
                if (program.setsInBlock(b, v)) {
                    setting |= 1 << b;
                }
            }
            int meet = 0;
            for (int round = 0; round < entry; round++) {
                meet = graph.frontierOfAll(setting | meet);
            }
            for (int b = 0; b < entry; b++) {
                if (has(meet, b)) {
                    meetingNames[b * VARIABLES + v] = 0;
                }
            }
        }

        private int newName(int v, int b, int place) {
            int name = NAMES_OF_ONE * v + namesOf[v];
            namesOf[v]++;
            homeBlock[name] = b;
            homePlace[name] = place;
            lastNames[b * VARIABLES + v] = name;
            return name;
        }

        private int lastName(int b, int v) {
            return v == NONE ? NONE : lastNames[b * VARIABLES + v];
        }

        private void nameBlock(int b) {
            int above = graph.parentOf(b);
            System.arraycopy(lastNames, above * VARIABLES, lastNames, b * VARIABLES, VARIABLES);
            for (int v = 0; v < VARIABLES; v++) {
                if (meetingNames[b * VARIABLES + v] != NONE) {
                    meetingNames[b * VARIABLES + v] = newName(v, b, BEFORE_STEPS);
                }
            }
            for (int k = 0; k < program.stepsOf(b); k++) {
                nameStep(b, k);
            }
            endUses[b] = lastName(b, program.variableOfFork(b));
        }

        private void nameStep(int b, int k) {
            int at = b * MOST_STEPS + k;
            firstUses[at] = lastName(b, program.firstVariable(b, k));
            secondUses[at] = lastName(b, program.secondVariable(b, k));
            int v = program.variableSet(b, k);
            if (v != NONE) {
                stepNames[at] = newName(v, b, k);
            }
        }

        private void findMeetingUses() {
            for (int b = 0; b < entry; b++) {
                for (int v = 0; v < VARIABLES; v++) {
                    if (meetingNames[b * VARIABLES + v] != NONE) {
                        findUsesOfMeeting(b, v);
                    }
                }
            }
        }

        private void findUsesOfMeeting(int b, int v) {
            for (int p = 0; p <= entry; p++) {
                if (graph.leadsTo(p, b)) {
                    meetingUses[useOfMeeting(b, v, p)] = lastName(p, v);
                }
            }
        }

        private int useOfMeeting(int b, int v, int p) {
            return (b * VARIABLES + v) * (entry + 1) + p;
        }

        /** Whether each use comes after the setting of its name. */
        boolean isSound() {
            for (int i = 0; i < graph.reachedCount(); i++) {
                int b = graph.inOrder(i);
                if (!isBlockSound(b) || !areMeetingsSound(b)) {
                    return false;
                }
            }
            return true;
        }

        private boolean isBlockSound(int b) {
            for (int k = 0; k < program.stepsOf(b); k++) {
                int at = b * MOST_STEPS + k;
                if (!isUseSound(firstUses[at], b, k) || !isUseSound(secondUses[at], b, k)) {
                    return false;
                }
            }
            return isUseSound(endUses[b], b, AFTER_STEPS);
        }

        private boolean areMeetingsSound(int b) {
            for (int v = 0; v < VARIABLES; v++) {
                for (int p = 0; p <= entry; p++) {
                    if (!isUseSound(meetingUses[useOfMeeting(b, v, p)], p, AFTER_STEPS)) {
                        return false;
                    }
                }
            }
            return true;
        }

        private boolean isUseSound(int name, int b, int place) {
            if (name == NONE) {
                return true;
            }
            int home = homeBlock[name];
            if (home == entry) {
                return true;
            }
            return home == b ? homePlace[name] < place : graph.hasBelow(home, b);
        }

        /** Propagates a sound form and answers how many copies went. */
        int dropCopies() {
            for (int name = 0; name < ALL_NAMES; name++) {
                standsFor[name] = name;
            }
            int gone = 0;
            for (int i = 0; i < graph.reachedCount(); i++) {
                gone += dropCopiesOf(graph.inOrder(i));
            }
            replaceAll(firstUses);
            replaceAll(secondUses);
            replaceAll(endUses);
            replaceAll(meetingUses);
            return gone;
        }

        /** In a sound form, what a copy uses was gone through before, so it is known by then. */
        private int dropCopiesOf(int b) {
            int gone = 0;
            for (int k = 0; k < program.stepsOf(b); k++) {
                int at = b * MOST_STEPS + k;
                if (program.kindOf(b, k) == Program.COPY && stepNames[at] != NONE) {
                    standsFor[stepNames[at]] = standsFor[firstUses[at]];
                    homeBlock[stepNames[at]] = NONE;
                    stepNames[at] = NONE;
                    firstUses[at] = NONE;
                    gone++;
                }
            }
            return gone;
        }

        private void replaceAll(int[] uses) {
            for (int i = 0; i < uses.length; i++) {
                if (uses[i] != NONE) {
                    uses[i] = standsFor[uses[i]];
                }
            }
        }

        boolean hasName(int name) {
            return name >= 0 && name < ALL_NAMES && homeBlock[name] != NONE;
        }

        int entryName(int v) {
            return NAMES_OF_ONE * v;
        }

        int meetingName(int b, int v) {
            return meetingNames[b * VARIABLES + v];
        }

        int meetingUse(int b, int v, int p) {
            return meetingUses[useOfMeeting(b, v, p)];
        }

        int nameSet(int b, int k) {
            return stepNames[b * MOST_STEPS + k];
        }

        int stepUse(int b, int k, int which) {
            int at = b * MOST_STEPS + k;
            return which == 0 ? firstUses[at] : secondUses[at];
        }

        int endUse(int b) {
            return endUses[b];
        }

        void changeEndUse(int b, int name) {
            endUses[b] = name;
        }

        void changeStepUse(int b, int k, int which, int name) {
            int at = b * MOST_STEPS + k;
            if (which == 0) {
                firstUses[at] = name;
            } else {
                secondUses[at] = name;
            }
        }

        void changeMeetingUse(int b, int v, int p, int name) {
            meetingUses[useOfMeeting(b, v, p)] = name;
        }
    }

    /** The fewest copies, one after the other, that set the meetings of a block. */
    private static final class CopyPlan {
        /** The one place besides the names. */
        static final int SPARE = NamedForm.ALL_NAMES;

        /** Of six meetings, at most three pairs swap, and each pair needs the spare place once. */
        private static final int MOST_COPIES = VARIABLES + VARIABLES / 2;

        private final int[] pendingTo;
        private final int[] pendingFrom;
        private final int[] copyTo;
        private final int[] copyFrom;
        private int pending;
        private int length;

        CopyPlan() {
            pendingTo = new int[VARIABLES];
            pendingFrom = new int[VARIABLES];
            copyTo = new int[MOST_COPIES];
            copyFrom = new int[MOST_COPIES];
        }

        void draw(NamedForm form, int b, int p) {
            collect(form, b, p);
            length = 0;
            for (int turn = 0; turn < MOST_COPIES && pending > 0; turn++) {
                int free = freeMove();
                if (free == NONE) {
                    copy(SPARE, pendingTo[0]);
                } else {
                    copy(pendingTo[free], pendingFrom[free]);
                    remove(free);
                }
                readFromCopy();
            }
        }

        int length() {
            return length;
        }

        int to(int i) {
            return copyTo[i];
        }

        int from(int i) {
            return copyFrom[i];
        }

        private void collect(NamedForm form, int b, int p) {
            pending = 0;
            for (int v = 0; v < VARIABLES; v++) {
                int from = form.meetingUse(b, v, p);
                int to = form.meetingName(b, v);
                if (from != NONE && from != to) {
                    pendingTo[pending] = to;
                    pendingFrom[pending] = from;
                    pending++;
                }
            }
        }

        /** A move whose target no other move waits to read; NONE when only rings are left. */
        private int freeMove() {
            for (int i = 0; i < pending; i++) {
                if (!isAwaited(pendingTo[i])) {
                    return i;
                }
            }
            return NONE;
        }

        private boolean isAwaited(int place) {
            for (int i = 0; i < pending; i++) {
                if (pendingFrom[i] == place) {
                    return true;
                }
            }
            return false;
        }

        private void copy(int to, int from) {
            copyTo[length] = to;
            copyFrom[length] = from;
            length++;
        }

        private void remove(int move) {
            pending--;
            pendingTo[move] = pendingTo[pending];
            pendingFrom[move] = pendingFrom[pending];
        }

        /** Reading what was just copied leaves the old place free, and so may open a ring. */
        private void readFromCopy() {
            for (int i = 0; i < pending; i++) {
                if (pendingFrom[i] == copyFrom[length - 1]) {
                    pendingFrom[i] = copyTo[length - 1];
                }
            }
        }
    }

    /** What a run said, and how it ended. */
    private static final class Talk {
        static final int FINE = 0;
        static final int ZERO = 1;
        static final int LIMIT = 2;

        private static final int MOST_SAID = 50;

        private final int[] numbers;
        private int size;
        private int outcome;

        Talk() {
            numbers = new int[MOST_SAID];
        }

        void begin() {
            size = 0;
            outcome = FINE;
        }

        void say(int number) {
            if (size >= MOST_SAID) {
                outcome = LIMIT;
                return;
            }
            numbers[size] = number;
            size++;
        }

        void fail(int why) {
            outcome = why;
        }

        int outcome() {
            return outcome;
        }

        int size() {
            return size;
        }

        int number(int i) {
            return numbers[i];
        }

        boolean isLike(Talk other) {
            if (outcome != other.outcome || size != other.size) {
                return false;
            }
            for (int i = 0; i < size; i++) {
                if (numbers[i] != other.numbers[i]) {
                    return false;
                }
            }
            return true;
        }
    }

    /** Runs the program or its named form. */
    private static final class Runner {
        static final int PROGRAM = 0;
        static final int AT_ONCE = 1;
        static final int BY_COPIES = 2;

        private static final int MOST_ARRIVALS = 100;

        private final Program program;
        private final NamedForm form;
        private final CopyPlan plan;
        private final int[] values;
        private final int[] arriving;
        private int way;

        Runner(Program program, NamedForm form, CopyPlan plan) {
            this.program = program;
            this.form = form;
            this.plan = plan;
            values = new int[CopyPlan.SPARE + 1];
            arriving = new int[VARIABLES];
        }

        void perform(int newWay, Talk talk) {
            way = newWay;
            talk.begin();
            enterProgram();
            int from = program.blockCount();
            int at = 0;
            for (int arrivals = 0; arrivals < MOST_ARRIVALS; arrivals++) {
                if (way == AT_ONCE) {
                    setAtOnce(at, from);
                } else if (way == BY_COPIES) {
                    setByCopies(at, from);
                }
                doSteps(at, talk);
                if (talk.outcome() != Talk.FINE) {
                    return;
                }
                from = at;
                at = nextBlock(from);
                if (at == NONE) {
                    return;
                }
            }
            talk.fail(Talk.LIMIT);
        }

        private void enterProgram() {
            Arrays.fill(values, 0);
            for (int v = 0; v < VARIABLES; v++) {
                values[form.entryName(v)] = program.startOf(v);
            }
        }

        private void setAtOnce(int b, int from) {
            for (int v = 0; v < VARIABLES; v++) {
                arriving[v] = valueOf(form.meetingUse(b, v, from));
            }
            for (int v = 0; v < VARIABLES; v++) {
                if (form.meetingName(b, v) != NONE) {
                    values[form.meetingName(b, v)] = arriving[v];
                }
            }
        }

        private void setByCopies(int b, int from) {
            plan.draw(form, b, from);
            for (int i = 0; i < plan.length(); i++) {
                values[plan.to(i)] = values[plan.from(i)];
            }
        }

        private int valueOf(int name) {
            return name == NONE ? 0 : values[name];
        }

        /** The program itself keeps each variable in the place of its entry's name. */
        private int placeOf(int variable) {
            return variable == NONE ? NONE : form.entryName(variable);
        }

        private void doSteps(int b, Talk talk) {
            for (int k = 0; k < program.stepsOf(b) && talk.outcome() == Talk.FINE; k++) {
                if (way == PROGRAM) {
                    int first = placeOf(program.firstVariable(b, k));
                    int second = placeOf(program.secondVariable(b, k));
                    doStep(b, k, placeOf(program.variableSet(b, k)), first, second, talk);
                } else {
                    int first = form.stepUse(b, k, 0);
                    int second = form.stepUse(b, k, 1);
                    doStep(b, k, form.nameSet(b, k), first, second, talk);
                }
            }
        }

        private void doStep(int b, int k, int to, int first, int second, Talk talk) {
            int kind = program.kindOf(b, k);
            int w = valueOf(first);
            int x = valueOf(second);
            if (kind == Program.SAY) {
                talk.say(w);
                return;
            }
            if (kind == Program.QUOTIENT && x == 0) {
                talk.fail(Talk.ZERO);
                return;
            }
            // A copy that is gone sets no place.
            if (to != NONE) {
                values[to] = kind == Program.PUT ? program.numberPut(b, k) : reckon(kind, w, x);
            }
        }

        private static int reckon(int kind, int w, int x) {
            switch (kind) {
                case Program.SUM:
                    return w + x;
                case Program.DIFFERENCE:
                    return w - x;
                case Program.PRODUCT:
                    return w * x;
                case Program.QUOTIENT:
                    return x == 0 ? 0 : w / x;
                case Program.LESS:
                    return w < x ? 1 : 0;
                default:
                    return w;
            }
        }

        private int nextBlock(int b) {
            int by = way == PROGRAM ? placeOf(program.variableOfFork(b)) : form.endUse(b);
            return program.blockAfter(b, valueOf(by) == 0);
        }
    }
}
