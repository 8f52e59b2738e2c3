/**
 * Small programs with loops that bear what holds in them: what must be true so that a program
 * keeps a promise is worked out, decided for all stores, and programs can be run.
 */
public final class PromiseDesk {

    /** All stores are as they must be. */
    public static final int VALID = -1;

    private static final int MOST_NODES = 60;
    private static final int MOST_HEIGHT = 6;
    private static final int MOST_DUTIES = 16;
    private static final int MOST_FUEL = 500;
    private static final int LAST_STORE = 4095;
    private static final int LAST_VALUE = 15;
    private static final int BITS_OF_A_VARIABLE = 4;

    private static final int NUMBER = 0;
    private static final int VARIABLE = 1;
    private static final int SUM = 2;
    private static final int DIFFERENCE = 3;
    private static final int MULTIPLE = 4;
    private static final int LESS = 5;
    private static final int EQUAL = 6;
    private static final int DIVISIBLE = 7;
    private static final int NOT = 8;
    private static final int AND = 9;
    private static final int OR = 10;
    private static final int NOTHING = 11;
    private static final int BECOMES = 12;
    private static final int THEN = 13;
    private static final int IF = 14;
    private static final int LOOP = 15;

    // What a word must be; from AN_EXPRESSION on it is a node.
    private static final int NOT_LOOKED_AT = 0;
    private static final int A_NUMBER = 1;
    private static final int A_FACTOR = 2;
    private static final int A_DIVISOR = 3;
    private static final int A_VARIABLE = 4;
    private static final int AN_EXPRESSION = 5;
    private static final int A_CONDITION = 6;
    private static final int A_COMMAND = 7;

    // One entry for each kind, in the order of the kinds.
    private static final int[] WORD_A = {
        A_NUMBER, A_VARIABLE, AN_EXPRESSION, AN_EXPRESSION, A_FACTOR,
        AN_EXPRESSION, AN_EXPRESSION, A_DIVISOR, A_CONDITION, A_CONDITION, A_CONDITION,
        NOT_LOOKED_AT, A_VARIABLE, A_COMMAND, A_CONDITION, A_CONDITION};
    private static final int[] WORD_B = {
        NOT_LOOKED_AT, NOT_LOOKED_AT, AN_EXPRESSION, AN_EXPRESSION, AN_EXPRESSION,
        AN_EXPRESSION, AN_EXPRESSION, AN_EXPRESSION, NOT_LOOKED_AT, A_CONDITION, A_CONDITION,
        NOT_LOOKED_AT, AN_EXPRESSION, A_COMMAND, A_COMMAND, A_CONDITION};
    private static final int[] WORD_C = {
        NOT_LOOKED_AT, NOT_LOOKED_AT, NOT_LOOKED_AT, NOT_LOOKED_AT, NOT_LOOKED_AT,
        NOT_LOOKED_AT, NOT_LOOKED_AT, NOT_LOOKED_AT, NOT_LOOKED_AT, NOT_LOOKED_AT, NOT_LOOKED_AT,
        NOT_LOOKED_AT, NOT_LOOKED_AT, NOT_LOOKED_AT, A_COMMAND, A_COMMAND};

    private static final int NO_NODE = -1;

    // In place of a store: the fuel did not last.
    private static final int NO_STORE = -1;

    // In place of a store: a loop was met, and its invariant alone tells what must hold there.
    private static final int INVARIANT_HOLDS = -1;
    private static final int INVARIANT_FAILS = -2;

    private final Nodes nodes;
    private final Runner runner;
    private final Duties duties;

    /** No nodes, no promise. */
    public PromiseDesk() {
        nodes = new Nodes();
        runner = new Runner(nodes);
        duties = new Duties(nodes);
    }

    /** Makes a node: its number. */
    public int make(int kind, int a, int b, int c)
            throws IllegalArgumentException, IllegalStateException {
        if (kind < NUMBER || kind > LOOP || !nodes.haveWordsFor(kind, a, b, c)) {
            throw new IllegalArgumentException();
        }
        int height = nodes.heightOf(kind, a, b, c);
        if (nodes.size >= MOST_NODES || height > MOST_HEIGHT) {
            throw new IllegalStateException();
        }
        return nodes.add(kind, a, b, c, height);
    }

    /** What an expression gives in a store. */
    public int value(int node, int store) throws IllegalArgumentException {
        if (!nodes.has(node, AN_EXPRESSION) || !isStore(store)) {
            throw new IllegalArgumentException();
        }
        return nodes.numberIn(node, store);
    }

    /** Whether a condition is true in a store. */
    public boolean holds(int node, int store) throws IllegalArgumentException {
        if (!nodes.has(node, A_CONDITION) || !isStore(store)) {
            throw new IllegalArgumentException();
        }
        return nodes.isTrueIn(node, store);
    }

    /** Runs a command from a store: the store behind it. */
    public int run(int node, int store, int fuel)
            throws IllegalArgumentException, IllegalStateException {
        if (!nodes.has(node, A_COMMAND) || !isStore(store) || fuel < 1 || fuel > MOST_FUEL) {
            throw new IllegalArgumentException();
        }
        int behind = runner.storeBehind(node, store, fuel);
        if (behind == NO_STORE) {
            throw new IllegalStateException();
        }
        return behind;
    }

    /** Makes the promise p, c, q, in place of the one before: how many duties it has. */
    public int promise(int p, int c, int q)
            throws IllegalArgumentException, IllegalStateException {
        if (!nodes.has(p, A_CONDITION) || !nodes.has(c, A_COMMAND) || !nodes.has(q, A_CONDITION)) {
            throw new IllegalArgumentException();
        }
        if (1 + duties.howManyOf(c) > MOST_DUTIES) {
            throw new IllegalStateException();
        }
        duties.replaceBy(p, c, q);
        return duties.size;
    }

    /** Whether duty i (from 0) of the promise is kept in a store. */
    public boolean kept(int i, int store) throws IllegalArgumentException, IllegalStateException {
        if (!isStore(store)) {
            throw new IllegalArgumentException();
        }
        if (!duties.has(i)) {
            throw new IllegalStateException();
        }
        return duties.isKeptIn(i, store);
    }

    /** The least number of a store in which duty i of the promise is not kept, or VALID. */
    public int decide(int i) throws IllegalStateException {
        if (!duties.has(i)) {
            throw new IllegalStateException();
        }
        return duties.leastBroken(i);
    }

    /** In how many of the stores whose numbers are from .. to duty i is not kept. */
    public int broken(int i, int from, int to)
            throws IllegalArgumentException, IllegalStateException {
        if (from < 0 || from > to || to > LAST_STORE) {
            throw new IllegalArgumentException();
        }
        if (!duties.has(i)) {
            throw new IllegalStateException();
        }
        return duties.howManyBroken(i, from, to);
    }

    /** Of all pairs of a duty of the promise and a store, the part that is kept. */
    public double part() throws IllegalStateException {
        if (duties.size == 0) {
            throw new IllegalStateException();
        }
        int pairs = duties.size * (LAST_STORE + 1);
        return (double) (pairs - duties.howManyBrokenPairs()) / (double) pairs;
    }

    /** 0 how many nodes there are, 1 how many duties the promise has, 2 how many are valid. */
    public int count(int what) throws IllegalArgumentException {
        switch (what) {
            case 0:
                return nodes.size;
            case 1:
                return duties.size;
            case 2:
                return duties.howManyValid();
            default:
                throw new IllegalArgumentException();
        }
    }

    private static boolean isStore(int store) {
        return store >= 0 && store <= LAST_STORE;
    }

    private static int changedStore(int store, int variable, int number) {
        int shift = BITS_OF_A_VARIABLE * variable;
        // The low bits are the remainder 0 .. 15 for numbers below 0 too.
        return (store & ~(LAST_VALUE << shift)) | ((number & LAST_VALUE) << shift);
    }

    /** The nodes, and what expressions and conditions are in a store. */
    private static final class Nodes {
        final int[] kinds = new int[MOST_NODES];
        final int[] as = new int[MOST_NODES];
        final int[] bs = new int[MOST_NODES];
        final int[] cs = new int[MOST_NODES];
        final int[] heights = new int[MOST_NODES];
        int size = 0;

        boolean has(int node, int sort) {
            return node >= 0 && node < size && sortOf(kinds[node]) == sort;
        }

        boolean haveWordsFor(int kind, int a, int b, int c) {
            return fits(WORD_A[kind], a) && fits(WORD_B[kind], b) && fits(WORD_C[kind], c);
        }

        int heightOf(int kind, int a, int b, int c) {
            int below = Math.max(heightBelow(WORD_A[kind], a), heightBelow(WORD_B[kind], b));
            return 1 + Math.max(below, heightBelow(WORD_C[kind], c));
        }

        int add(int kind, int a, int b, int c, int height) {
            int node = size;
            kinds[node] = kind;
            as[node] = a;
            bs[node] = b;
            cs[node] = c;
            heights[node] = height;
            size++;
            return node;
        }

        int numberIn(int expression, int store) {
            int a = as[expression];
            int b = bs[expression];
            switch (kinds[expression]) {
                case NUMBER:
                    return a;
                case VARIABLE:
                    return (store >> (BITS_OF_A_VARIABLE * a)) & LAST_VALUE;
                case SUM:
                    return numberIn(a, store) + numberIn(b, store);
                case DIFFERENCE:
                    return numberIn(a, store) - numberIn(b, store);
                default:
                    return a * numberIn(b, store);
            }
        }

        boolean isTrueIn(int condition, int store) {
            int a = as[condition];
            int b = bs[condition];
            switch (kinds[condition]) {
                case LESS:
                    return numberIn(a, store) < numberIn(b, store);
                case EQUAL:
                    return numberIn(a, store) == numberIn(b, store);
                case DIVISIBLE:
                    return numberIn(b, store) % a == 0;
                case NOT:
                    return !isTrueIn(a, store);
                case AND:
                    return isTrueIn(a, store) && isTrueIn(b, store);
                default:
                    return isTrueIn(a, store) || isTrueIn(b, store);
            }
        }

        private boolean fits(int role, int word) {
            switch (role) {
                case NOT_LOOKED_AT:
                    return true;
                case A_NUMBER:
                    return word >= -100 && word <= 100;
                case A_FACTOR:
                    return word >= -16 && word <= 16;
                case A_DIVISOR:
                    return word >= 1 && word <= 16;
                case A_VARIABLE:
                    return word >= 0 && word <= 2;
                default:
                    return has(word, role);
            }
        }

        private int heightBelow(int role, int word) {
            return role >= AN_EXPRESSION ? heights[word] : 0;
        }

        private static int sortOf(int kind) {
            if (kind < LESS) {
                return AN_EXPRESSION;
            }
            return kind < NOTHING ? A_CONDITION : A_COMMAND;
        }
    }

    /** Runs commands step by step. */
    private static final class Runner {
        private final Nodes nodes;
        private int current = 0;
        private int stepsLeft = 0;

        Runner(Nodes nodes) {
            this.nodes = nodes;
        }

        /** The store behind a command, or NO_STORE if it takes more steps than fuel. */
        int storeBehind(int command, int store, int fuel) {
            current = store;
            stepsLeft = fuel;
            return ends(command) ? current : NO_STORE;
        }

        private boolean ends(int command) {
            if (stepsLeft == 0) {
                return false;
            }
            stepsLeft--;
            int a = nodes.as[command];
            int b = nodes.bs[command];
            switch (nodes.kinds[command]) {
                case NOTHING:
                    return true;
                case BECOMES:
                    current = changedStore(current, a, nodes.numberIn(b, current));
                    return true;
                case THEN:
                    return ends(a) && ends(b);
                case IF:
                    return ends(nodes.isTrueIn(a, current) ? b : nodes.cs[command]);
                default:
                    return loopEnds(a, nodes.cs[command]);
            }
        }

        private boolean loopEnds(int condition, int body) {
            // Each round takes a step at least, so the fuel is gone before the rounds are.
            for (int round = 0; round <= MOST_FUEL; round++) {
                if (!nodes.isTrueIn(condition, current)) {
                    return true;
                }
                if (!ends(body)) {
                    return false;
                }
            }
            return false;
        }
    }

    /**
     * A duty: wherever the assumed condition holds, and the guard (if there is one) is as wanted,
     * the goal must hold behind the path. The path's last command is the one that comes first.
     */
    private static final class Duty {
        int assumed = NO_NODE;
        int guard = NO_NODE;
        boolean guardWanted = false;
        final int[] path = new int[MOST_HEIGHT];
        int pathLength = 0;
        int goal = NO_NODE;
    }

    /** The duties of the promise; none if there is no promise. */
    private static final class Duties {
        private final Nodes nodes;
        private final Duty[] rows = new Duty[MOST_DUTIES];
        // The commands that still come behind the one whose duties are gathered, nearest last.
        private final int[] behind = new int[MOST_HEIGHT];
        int size = 0;

        Duties(Nodes nodes) {
            this.nodes = nodes;
            for (int i = 0; i < MOST_DUTIES; i++) {
                rows[i] = new Duty();
            }
        }

        boolean has(int i) {
            return i >= 0 && i < size;
        }

        /** How many duties a command has, whatever is to hold behind it. */
        int howManyOf(int command) {
            int b = nodes.bs[command];
            int c = nodes.cs[command];
            switch (nodes.kinds[command]) {
                case THEN:
                    return howManyOf(nodes.as[command]) + howManyOf(b);
                case IF:
                    return howManyOf(b) + howManyOf(c);
                case LOOP:
                    return 2 + howManyOf(c);
                default:
                    return 0;
            }
        }

        /** The caller has seen to it that there are not more duties than rows. */
        void replaceBy(int p, int command, int q) {
            size = 0;
            behind[0] = command;
            add(p, NO_NODE, false, 0, 1, q);
            gather(command, 0, 0, q);
        }

        /**
         * Adds the duties of a command for what is to hold behind it: the goal, behind the
         * commands that stand in the row from bottom to below top. As top grows by at most 1
         * where the height falls by 1, it stays below MOST_HEIGHT.
         */
        private void gather(int command, int bottom, int top, int goal) {
            int a = nodes.as[command];
            int b = nodes.bs[command];
            int c = nodes.cs[command];
            switch (nodes.kinds[command]) {
                case THEN:
                    behind[top] = b;
                    gather(a, bottom, top + 1, goal);
                    gather(b, bottom, top, goal);
                    break;
                case IF:
                    gather(b, bottom, top, goal);
                    gather(c, bottom, top, goal);
                    break;
                case LOOP:
                    behind[top] = c;
                    add(b, a, true, top, top + 1, b);
                    add(b, a, false, bottom, top, goal);
                    gather(c, top, top, b);
                    break;
                default:
                    break;
            }
        }

        private void add(int assumed, int guard, boolean wanted, int bottom, int top, int goal) {
            Duty duty = rows[size];
            duty.assumed = assumed;
            duty.guard = guard;
            duty.guardWanted = wanted;
            duty.pathLength = top - bottom;
            System.arraycopy(behind, bottom, duty.path, 0, top - bottom);
            duty.goal = goal;
            size++;
        }

        boolean isKeptIn(int i, int store) {
            Duty duty = rows[i];
            if (!nodes.isTrueIn(duty.assumed, store)) {
                return true;
            }
            if (duty.guard != NO_NODE
                    && nodes.isTrueIn(duty.guard, store) != duty.guardWanted) {
                return true;
            }
            return goalHoldsBehindPath(duty, store);
        }

        private boolean goalHoldsBehindPath(Duty duty, int store) {
            int current = store;
            for (int k = duty.pathLength - 1; k >= 0; k--) {
                current = follow(duty.path[k], current);
                if (current < 0) {
                    return current == INVARIANT_HOLDS;
                }
            }
            return nodes.isTrueIn(duty.goal, current);
        }

        /**
         * The store behind a command without a loop on its way; else INVARIANT_HOLDS or
         * INVARIANT_FAILS, by the first loop met: nothing behind a loop bears on what must
         * hold before it.
         */
        private int follow(int command, int store) {
            int a = nodes.as[command];
            int b = nodes.bs[command];
            switch (nodes.kinds[command]) {
                case NOTHING:
                    return store;
                case BECOMES:
                    return changedStore(store, a, nodes.numberIn(b, store));
                case THEN:
                    int between = follow(a, store);
                    return between < 0 ? between : follow(b, between);
                case IF:
                    return follow(nodes.isTrueIn(a, store) ? b : nodes.cs[command], store);
                default:
                    return nodes.isTrueIn(b, store) ? INVARIANT_HOLDS : INVARIANT_FAILS;
            }
        }

        int leastBroken(int i) {
            for (int store = 0; store <= LAST_STORE; store++) {
                if (!isKeptIn(i, store)) {
                    return store;
                }
            }
            return VALID;
        }

        int howManyBroken(int i, int from, int to) {
            int many = 0;
            for (int store = from; store <= to; store++) {
                if (!isKeptIn(i, store)) {
                    many++;
                }
            }
            return many;
        }

        int howManyBrokenPairs() {
            int many = 0;
            for (int i = 0; i < size; i++) {
                many += howManyBroken(i, 0, LAST_STORE);
            }
            return many;
        }

        int howManyValid() {
            int many = 0;
            for (int i = 0; i < size; i++) {
                if (leastBroken(i) == VALID) {
                    many++;
                }
            }
            return many;
        }
    }
}
