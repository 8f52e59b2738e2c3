/** For each promise of the document: ordinary inputs, the edges it names, and wrong inputs. */
public final class PromisesTest {

    private interface Call {
        Object answer();
    }

    private static int wrong = 0;

    public static void main(String[] args) {
        newObject();
        makeNumbers();
        makeRefusesWrongWords();
        makeIgnoresUnusedWords();
        makeLimits();
        makeChangesNothingWhenRefused();
        values();
        greatestValues();
        valueRefuses();
        conditions();
        holdsRefuses();
        runCommands();
        runCountsSteps();
        runRefuses();
        promiseDuties();
        promiseOrderOfDuties();
        promiseLimit();
        promiseRefuses();
        keptDuties();
        loopEndsWhatMustHold();
        decideDuties();
        brokenDuties();
        partOfPairs();
        counts();
        dutyCallsRefuse();
        if (wrong != 0) {
            System.out.println(wrong + " answers are not as due");
            System.exit(1);
        }
        System.out.println("all promises tested");
    }

    private static void due(String what, Call call, Object want) {
        Object got;
        try {
            got = call.answer();
        } catch (RuntimeException e) {
            got = e.getClass();
        }
        if (!got.equals(want)) {
            wrong++;
            System.out.println(what + " answered " + got + ", due is " + want);
        }
    }

    private static void dueArgument(String what, Call call) {
        due(what, call, IllegalArgumentException.class);
    }

    private static void dueState(String what, Call call) {
        due(what, call, IllegalStateException.class);
    }

    private static int store(int v0, int v1, int v2) {
        return v0 + 16 * v1 + 256 * v2;
    }

    /** Promise 1. */
    private static void newObject() {
        PromiseDesk x = new PromiseDesk();
        due("no nodes", () -> x.count(0), 0);
        due("no duties", () -> x.count(1), 0);
        due("no valid duties", () -> x.count(2), 0);
        dueState("no promise", () -> x.part());
        x.make(1, 0, 0, 0);
        PromiseDesk y = new PromiseDesk();
        due("objects share nothing", () -> y.count(0), 0);
    }

    /** Promise 2. */
    private static void makeNumbers() {
        PromiseDesk x = new PromiseDesk();
        int[][] rows = {
            {0, -100, 0}, {1, 2, 0}, {2, 0, 1}, {3, 0, 1}, {4, 16, 1}, {5, 0, 1}, {6, 0, 1},
            {7, 16, 0}, {8, 5, 0}, {9, 5, 6}, {10, 5, 6}, {11, 0, 0}, {12, 2, 0}, {13, 11, 12}};
        for (int i = 0; i < rows.length; i++) {
            int[] row = rows[i];
            due("make kind " + row[0], () -> x.make(row[0], row[1], row[2], 0), i);
        }
        due("make kind 14", () -> x.make(14, 5, 11, 12), 14);
        due("make kind 15", () -> x.make(15, 5, 6, 12), 15);
    }

    private static void makeRefusesWrongWords() {
        PromiseDesk x = new PromiseDesk();
        int e = x.make(1, 0, 0, 0);
        int p = x.make(5, e, e, 0);
        int c = x.make(11, 0, 0, 0);
        int[][] rows = {
            {-1, 0, 0, 0}, {16, 0, 0, 0}, {Integer.MIN_VALUE, 0, 0, 0}, {Integer.MAX_VALUE, 0, 0, 0},
            {0, -101, 0, 0}, {0, 101, 0, 0}, {1, -1, 0, 0}, {1, 3, 0, 0},
            {2, p, e, 0}, {2, e, p, 0}, {2, -1, e, 0}, {2, e, 3, 0}, {2, c, e, 0}, {2, e, c, 0},
            {3, p, e, 0}, {3, e, p, 0}, {3, e, -1, 0}, {3, 3, e, 0},
            {4, -17, e, 0}, {4, 17, e, 0}, {4, 1, p, 0}, {4, 1, -1, 0}, {4, 1, 3, 0},
            {5, p, e, 0}, {5, e, p, 0}, {5, -1, e, 0}, {5, e, 3, 0},
            {6, c, e, 0}, {6, e, c, 0}, {6, 3, e, 0}, {6, e, -1, 0},
            {7, 0, e, 0}, {7, 17, e, 0}, {7, -1, e, 0}, {7, 1, p, 0}, {7, 1, 3, 0},
            {8, e, 0, 0}, {8, c, 0, 0}, {8, -1, 0, 0}, {8, 3, 0, 0},
            {9, e, p, 0}, {9, p, e, 0}, {9, c, p, 0}, {9, p, c, 0},
            {10, e, p, 0}, {10, p, e, 0}, {10, p, 3, 0}, {10, -1, p, 0},
            {12, -1, e, 0}, {12, 3, e, 0}, {12, 0, p, 0}, {12, 0, c, 0}, {12, 0, 3, 0},
            {13, e, c, 0}, {13, c, e, 0}, {13, p, c, 0}, {13, c, p, 0}, {13, c, 3, 0},
            {14, e, c, c}, {14, c, c, c}, {14, p, p, c}, {14, p, c, p}, {14, p, c, e},
            {14, p, c, 3}, {14, p, c, -1}, {14, 3, c, c},
            {15, e, p, c}, {15, c, p, c}, {15, p, e, c}, {15, p, c, c}, {15, p, p, e},
            {15, p, p, p}, {15, p, p, 3}, {15, p, p, -1}, {15, 3, p, c}, {15, p, 3, c}};
        for (int[] row : rows) {
            String what = "make(" + row[0] + ", " + row[1] + ", " + row[2] + ", " + row[3] + ")";
            dueArgument(what, () -> x.make(row[0], row[1], row[2], row[3]));
        }
        due("refused nodes are not made", () -> x.count(0), 3);
    }

    private static void makeIgnoresUnusedWords() {
        PromiseDesk x = new PromiseDesk();
        due("number", () -> x.make(0, 1, -7, 999), 0);
        due("variable", () -> x.make(1, 1, -7, 999), 1);
        due("sum", () -> x.make(2, 0, 1, -7), 2);
        due("less", () -> x.make(5, 0, 1, 999), 3);
        due("not", () -> x.make(8, 3, -7, 999), 4);
        due("nothing", () -> x.make(11, -7, -7, 999), 5);
        due("becomes", () -> x.make(12, 0, 1, 999), 6);
        due("then", () -> x.make(13, 5, 6, -7), 7);
        // The words that are numbers or are not looked at do not count for the height.
        PromiseDesk y = new PromiseDesk();
        int top = y.make(1, 0, 0, 0);
        for (int height = 2; height <= 6; height++) {
            top = y.make(4, 1, top, 0);
        }
        int highest = top;
        due("number with a high node's number", () -> y.make(0, highest, highest, highest), 6);
        due("factor with a high node's number", () -> y.make(4, highest, 0, highest), 7);
        due("divisor with a high node's number", () -> y.make(7, highest, 0, highest), 8);
        due("not with a high node's number", () -> y.make(8, 8, highest, highest), 9);
    }

    private static void makeLimits() {
        PromiseDesk x = new PromiseDesk();
        for (int i = 0; i < 60; i++) {
            int number = i;
            due("node " + i, () -> x.make(0, number, 0, 0), number);
        }
        dueState("the 61st node", () -> x.make(0, 0, 0, 0));
        dueArgument("a wrong word goes before a full desk", () -> x.make(0, 101, 0, 0));
        dueArgument("a wrong kind goes before a full desk", () -> x.make(16, 0, 0, 0));
        PromiseDesk y = new PromiseDesk();
        y.make(1, 0, 0, 0);
        y.make(5, 0, 0, 0);
        y.make(11, 0, 0, 0);
        for (int node = 3; node <= 6; node++) {
            int before = node == 3 ? 1 : node - 1;
            due("height " + node, () -> y.make(8, before, 0, 0), before == 1 ? 3 : before + 1);
        }
        int high = 6;
        dueState("height 7 by not", () -> y.make(8, high, 0, 0));
        dueState("height 7 by the first word", () -> y.make(9, high, 1, 0));
        dueState("height 7 by the second word", () -> y.make(10, 1, high, 0));
        dueState("height 7 by the condition", () -> y.make(14, high, 2, 2));
        dueState("height 7 by the invariant", () -> y.make(15, 1, high, 2));
        dueArgument("a wrong word goes before the height", () -> y.make(9, high, 0, 0));
        int command = y.make(14, 5, 2, 2);
        dueState("height 7 by the third word", () -> y.make(14, 1, 2, command));
        dueState("height 7 by the body", () -> y.make(15, 1, 1, command));
        dueState("height 7 by then", () -> y.make(13, 2, command, 0));
        due("nothing more was made", () -> y.count(0), 8);
    }

    private static void makeChangesNothingWhenRefused() {
        PromiseDesk x = new PromiseDesk();
        x.make(0, 7, 0, 0);
        dueArgument("wrong word", () -> x.make(0, 101, 0, 0));
        due("the next number is not used up", () -> x.make(0, 8, 0, 0), 1);
        due("the node is the right one", () -> x.value(1, 0), 8);
        due("the node before stays", () -> x.value(0, 0), 7);
    }

    /** Promise 3. */
    private static void values() {
        PromiseDesk x = new PromiseDesk();
        x.make(1, 0, 0, 0);
        x.make(1, 1, 0, 0);
        x.make(1, 2, 0, 0);
        x.make(0, -100, 0, 0);
        x.make(2, 0, 1, 0);
        x.make(3, 0, 1, 0);
        x.make(4, -16, 2, 0);
        int s = store(3, 11, 14);
        due("variable 0", () -> x.value(0, s), 3);
        due("variable 1", () -> x.value(1, s), 11);
        due("variable 2", () -> x.value(2, s), 14);
        due("number", () -> x.value(3, s), -100);
        due("sum", () -> x.value(4, s), 14);
        due("difference", () -> x.value(5, s), -8);
        due("multiple", () -> x.value(6, s), -224);
        due("greatest store", () -> x.value(2, 4095), 15);
        due("least store", () -> x.value(2, 0), 0);
    }

    /** Six levels do not reach beyond an int, so this is as far from 0 as a value goes. */
    private static void greatestValues() {
        PromiseDesk x = new PromiseDesk();
        int top = x.make(0, 100, 0, 0);
        int want = 100;
        for (int height = 2; height <= 6; height++) {
            top = x.make(4, height == 2 ? -16 : 16, top, 0);
            want *= height == 2 ? -16 : 16;
        }
        int highest = top;
        int product = want;
        due("a great number", () -> x.value(highest, 0), product);
        due("that number", () -> product, -104857600);
    }

    private static void valueRefuses() {
        PromiseDesk x = new PromiseDesk();
        dueArgument("no node yet", () -> x.value(0, 0));
        x.make(1, 0, 0, 0);
        x.make(5, 0, 0, 0);
        x.make(11, 0, 0, 0);
        dueArgument("a condition", () -> x.value(1, 0));
        dueArgument("a command", () -> x.value(2, 0));
        dueArgument("no such node", () -> x.value(3, 0));
        dueArgument("beyond the rows", () -> x.value(60, 0));
        dueArgument("below 0", () -> x.value(-1, 0));
        dueArgument("store below 0", () -> x.value(0, -1));
        dueArgument("store above 4095", () -> x.value(0, 4096));
    }

    /** Promise 4. */
    private static void conditions() {
        PromiseDesk x = new PromiseDesk();
        x.make(1, 0, 0, 0);
        x.make(1, 1, 0, 0);
        x.make(5, 0, 1, 0);
        x.make(6, 0, 1, 0);
        x.make(3, 0, 1, 0);
        x.make(7, 3, 4, 0);
        x.make(8, 2, 0, 0);
        x.make(9, 2, 5, 0);
        x.make(10, 2, 5, 0);
        // The rows: v0, v1, then whether 2, 3, 5, 6, 7, 8 hold.
        int[][] rows = {
            {1, 4, 1, 0, 1, 0, 1, 1}, {1, 3, 1, 0, 0, 0, 0, 1}, {4, 4, 0, 1, 1, 1, 0, 1},
            {5, 4, 0, 0, 0, 1, 0, 0}, {15, 0, 0, 0, 1, 1, 0, 1}, {0, 15, 1, 0, 1, 0, 1, 1}};
        int[] nodes = {2, 3, 5, 6, 7, 8};
        for (int[] row : rows) {
            for (int k = 0; k < nodes.length; k++) {
                int node = nodes[k];
                String what = "condition " + node + " of " + row[0] + ", " + row[1];
                due(what, () -> x.holds(node, store(row[0], row[1], 9)), row[k + 2] == 1);
            }
        }
        int low = x.make(0, -100, 0, 0);
        int lower = x.make(5, low, 0, 0);
        due("numbers below 0 are less", () -> x.holds(lower, 0), true);
        int all = x.make(7, 1, low, 0);
        due("all is divisible by 1", () -> x.holds(all, 0), true);
        int notBy16 = x.make(7, 16, low, 0);
        due("-100 is not divisible by 16", () -> x.holds(notBy16, 0), false);
    }

    private static void holdsRefuses() {
        PromiseDesk x = new PromiseDesk();
        dueArgument("no node yet", () -> x.holds(0, 0));
        x.make(1, 0, 0, 0);
        x.make(6, 0, 0, 0);
        x.make(11, 0, 0, 0);
        dueArgument("an expression", () -> x.holds(0, 0));
        dueArgument("a command", () -> x.holds(2, 0));
        dueArgument("no such node", () -> x.holds(3, 0));
        dueArgument("below 0", () -> x.holds(-1, 0));
        dueArgument("store below 0", () -> x.holds(1, -1));
        dueArgument("store above 4095", () -> x.holds(1, 4096));
        due("the greatest store", () -> x.holds(1, 4095), true);
    }

    /** Promise 5. */
    private static void runCommands() {
        PromiseDesk x = new PromiseDesk();
        x.make(1, 0, 0, 0);
        x.make(1, 1, 0, 0);
        x.make(0, 1, 0, 0);
        int sum = x.make(2, 0, 1, 0);
        int low = x.make(3, 1, 0, 0);
        int less = x.make(5, 0, 1, 0);
        int nothing = x.make(11, 0, 0, 0);
        int add = x.make(12, 2, sum, 0);
        int subtract = x.make(12, 1, low, 0);
        int both = x.make(13, add, subtract, 0);
        int choice = x.make(14, less, add, subtract);
        int s = store(9, 5, 3);
        due("nothing", () -> x.run(nothing, s, 1), s);
        due("becomes", () -> x.run(add, s, 1), store(9, 5, 14));
        due("becomes, above 15", () -> x.run(add, store(9, 8, 3), 1), store(9, 8, 1));
        due("becomes, below 0", () -> x.run(subtract, s, 1), store(9, 12, 3));
        due("then", () -> x.run(both, s, 3), store(9, 12, 14));
        due("if, true", () -> x.run(choice, store(5, 9, 3), 2), store(5, 9, 14));
        due("if, not true", () -> x.run(choice, s, 2), store(9, 12, 3));
    }

    private static void runCountsSteps() {
        PromiseDesk x = new PromiseDesk();
        x.make(1, 0, 0, 0);
        x.make(0, 1, 0, 0);
        int down = x.make(12, 0, x.make(3, 0, 1, 0), 0);
        int some = x.make(5, x.make(0, 0, 0, 0), 0, 0);
        int always = x.make(6, 0, 0, 0);
        int nothing = x.make(11, 0, 0, 0);
        int loop = x.make(15, some, always, down);
        int endless = x.make(15, always, always, nothing);
        int choice = x.make(14, some, nothing, loop);
        int loops = x.make(13, loop, nothing, 0);
        due("a loop of no round", () -> x.run(loop, 16, 1), 16);
        due("a loop of 15 rounds", () -> x.run(loop, 15, 16), 0);
        dueState("a step too few", () -> x.run(loop, 15, 15));
        due("then counts, and both parts", () -> x.run(loops, 15, 18), 0);
        dueState("then with a step too few", () -> x.run(loops, 15, 17));
        due("if counts, and one part", () -> x.run(choice, 3, 2), 3);
        dueState("if with a step too few", () -> x.run(choice, 3, 1));
        dueState("an endless loop, little fuel", () -> x.run(endless, 0, 1));
        dueState("an endless loop, all fuel", () -> x.run(endless, 0, 500));
        due("a run does not hinder the next", () -> x.run(loop, 15, 500), 0);
        due("what a run did is not kept", () -> x.value(0, 15), 15);
    }

    private static void runRefuses() {
        PromiseDesk x = new PromiseDesk();
        dueArgument("no node yet", () -> x.run(0, 0, 1));
        x.make(1, 0, 0, 0);
        x.make(6, 0, 0, 0);
        x.make(11, 0, 0, 0);
        x.make(15, 1, 1, 2);
        dueArgument("an expression", () -> x.run(0, 0, 1));
        dueArgument("a condition", () -> x.run(1, 0, 1));
        dueArgument("no such node", () -> x.run(4, 0, 1));
        dueArgument("below 0", () -> x.run(-1, 0, 1));
        dueArgument("store below 0", () -> x.run(2, -1, 1));
        dueArgument("store above 4095", () -> x.run(2, 4096, 1));
        dueArgument("no fuel", () -> x.run(2, 0, 0));
        dueArgument("fuel below 0", () -> x.run(2, 0, -1));
        dueArgument("too much fuel", () -> x.run(2, 0, 501));
        dueArgument("too much fuel goes before an endless loop", () -> x.run(3, 0, 501));
        due("all fuel", () -> x.run(2, 4095, 500), 4095);
    }

    /** A desk with: 0 v0, 1 the number 1, 2 always, 3 v0 < 1, 4 nothing, 5 a loop of 3, 2, 4. */
    private static PromiseDesk loopDesk() {
        PromiseDesk x = new PromiseDesk();
        x.make(1, 0, 0, 0);
        x.make(0, 1, 0, 0);
        x.make(6, 0, 0, 0);
        x.make(5, 0, 1, 0);
        x.make(11, 0, 0, 0);
        x.make(15, 3, 2, 4);
        return x;
    }

    /** Promise 6. */
    private static void promiseDuties() {
        PromiseDesk x = loopDesk();
        int becomes = x.make(12, 0, 1, 0);
        int choice = x.make(14, 3, 5, 4);
        int nested = x.make(15, 3, 2, 5);
        int then = x.make(13, 5, nested, 0);
        int both = x.make(14, 2, 5, nested);
        due("nothing", () -> x.promise(2, 4, 2), 1);
        due("becomes", () -> x.promise(2, becomes, 2), 1);
        due("loop", () -> x.promise(2, 5, 2), 3);
        due("if with a loop", () -> x.promise(2, choice, 2), 3);
        due("loop in a loop", () -> x.promise(2, nested, 2), 5);
        due("then", () -> x.promise(2, then, 2), 7);
        due("if with loops on both sides", () -> x.promise(2, both, 2), 7);
        due("the last promise is the one that counts", () -> x.count(1), 7);
    }

    /** Each duty is told from the others by the one store, 1 .. 7, in which it is broken. */
    private static void promiseOrderOfDuties() {
        PromiseDesk x = new PromiseDesk();
        int v0 = x.make(1, 0, 0, 0);
        int v1 = x.make(1, 1, 0, 0);
        int one = x.make(0, 1, 0, 0);
        int zero = x.make(0, 0, 0, 0);
        int two = x.make(0, 2, 0, 0);
        int isOne = x.make(6, v0, one, 0);
        int isZero = x.make(6, v0, zero, 0);
        int isTwo = x.make(6, v0, two, 0);
        int more = x.make(5, zero, v1, 0);
        int never = x.make(8, x.make(6, v0, v0, 0), 0, 0);
        int nothing = x.make(11, 0, 0, 0);
        int clear = x.make(12, 0, zero, 0);
        int loop1 = x.make(15, more, isOne, clear);
        int loop2 = x.make(15, more, isTwo, clear);
        int then = x.make(13, loop1, loop2, 0);
        int choice = x.make(14, isZero, loop2, loop1);
        due("then", () -> x.promise(isZero, then, never), 5);
        due("duty 0: p, so the invariant of the first", () -> x.decide(0), store(0, 0, 0));
        due("duty 1: the first loop's body", () -> x.decide(1), store(1, 1, 0));
        due("duty 2: the first loop's end, so the second's invariant", () -> x.decide(2), 1);
        due("duty 2, how often", () -> x.broken(2, 0, 4095), 16);
        due("duty 3: the second loop's body", () -> x.decide(3), store(2, 1, 0));
        due("duty 4: the second loop's end, so q", () -> x.decide(4), 2);
        due("if", () -> x.promise(isZero, choice, isOne), 5);
        due("duty 0: the true side", () -> x.decide(0), 0);
        due("duty 1: the true side's loop body", () -> x.decide(1), store(2, 1, 0));
        due("duty 2: the true side's loop end", () -> x.decide(2), 2);
        due("duty 3: the other side's loop body", () -> x.decide(3), store(1, 1, 0));
        due("duty 4: the other side's loop end", () -> x.decide(4), PromiseDesk.VALID);
        int inner = x.make(15, never, isTwo, nothing);
        int outer = x.make(15, more, isOne, x.make(13, inner, clear, 0));
        due("a loop in a loop, then a command", () -> x.promise(isZero, outer, isOne), 5);
        due("duty 1: the outer body begins with the inner loop", () -> x.decide(1), store(1, 1, 0));
        due("duty 2: the outer end", () -> x.decide(2), PromiseDesk.VALID);
        due("duty 3: the inner body", () -> x.decide(3), PromiseDesk.VALID);
        due("duty 4: the inner end, so the outer invariant behind", () -> x.decide(4), 2);
        due("duty 4, how often", () -> x.broken(4, 0, 4095), 256);
        // Clearing gives q, but the body is for the outer invariant, not for q.
        due("a loop in a loop, another q", () -> x.promise(isZero, outer, isZero), 5);
        due("duty 2: the outer end, so q", () -> x.decide(2), 1);
        due("duty 4: the outer invariant, not q", () -> x.decide(4), 2);
    }

    private static void promiseLimit() {
        PromiseDesk x = loopDesk();
        int two = x.make(13, 5, 5, 0);
        int four = x.make(13, two, two, 0);
        int nested = x.make(15, 3, 2, 5);
        int three = x.make(13, nested, 5, 0);
        int choice = x.make(14, 3, 5, two);
        int seven = x.make(13, four, three, 0);
        int eight = x.make(13, four, x.make(14, 3, two, two), 0);
        due("15 duties", () -> x.promise(2, seven, 2), 15);
        dueState("17 duties", () -> x.promise(3, eight, 3));
        due("the promise before stays", () -> x.count(1), 15);
        due("with its duties", () -> x.decide(14), PromiseDesk.VALID);
        due("loops on both sides of an if", () -> x.promise(2, choice, 2), 7);
        dueState("17 duties again", () -> x.promise(2, eight, 2));
        due("the one before stays again", () -> x.count(1), 7);
        int nestedTwice = x.make(13, nested, nested, 0);
        int nestedOften = x.make(13, nestedTwice, nestedTwice, 0);
        due("9 duties by loops in loops", () -> x.promise(2, nestedTwice, 2), 9);
        dueState("17 duties by loops in loops", () -> x.promise(2, nestedOften, 2));
    }

    private static void promiseRefuses() {
        PromiseDesk x = loopDesk();
        dueArgument("p an expression", () -> x.promise(0, 4, 2));
        dueArgument("p a command", () -> x.promise(4, 4, 2));
        dueArgument("p below 0", () -> x.promise(-1, 4, 2));
        dueArgument("p no node", () -> x.promise(6, 4, 2));
        dueArgument("c an expression", () -> x.promise(2, 0, 2));
        dueArgument("c a condition", () -> x.promise(2, 2, 2));
        dueArgument("c no node", () -> x.promise(2, 6, 2));
        dueArgument("q an expression", () -> x.promise(2, 4, 0));
        dueArgument("q a command", () -> x.promise(2, 4, 4));
        dueArgument("q no node", () -> x.promise(2, 4, 6));
        dueState("there is still no promise", () -> x.part());
        x.promise(2, 5, 2);
        dueArgument("refused with a promise", () -> x.promise(2, 4, 0));
        due("the promise before stays", () -> x.count(1), 3);
        int two = x.make(13, 5, 5, 0);
        int four = x.make(13, two, two, 0);
        int eight = x.make(13, four, four, 0);
        dueArgument("a wrong node goes before too many duties", () -> x.promise(2, eight, 0));
    }

    /** Promise 7. */
    private static void keptDuties() {
        PromiseDesk x = new PromiseDesk();
        int v0 = x.make(1, 0, 0, 0);
        int v1 = x.make(1, 1, 0, 0);
        int less = x.make(5, v0, v1, 0);
        int more = x.make(5, v1, v0, 0);
        int keep = x.make(12, 2, v0, 0);
        int turn = x.make(12, 0, v1, 0);
        int back = x.make(12, 1, x.make(1, 2, 0, 0), 0);
        int swap = x.make(13, x.make(13, keep, turn, 0), back, 0);
        int sort = x.make(14, more, swap, x.make(11, 0, 0, 0));
        x.promise(less, swap, more);
        due("where p holds", () -> x.kept(0, store(3, 7, 0)), true);
        due("where p does not hold", () -> x.kept(0, store(7, 3, 0)), true);
        x.promise(less, turn, less);
        due("q fails behind the command", () -> x.kept(0, store(3, 7, 0)), false);
        due("p does not hold, so all is well", () -> x.kept(0, store(7, 7, 0)), true);
        int equal = x.make(6, v0, v0, 0);
        x.promise(equal, sort, less);
        due("if, true", () -> x.kept(0, store(7, 3, 0)), true);
        due("if, not true, and q holds", () -> x.kept(0, store(3, 7, 0)), true);
        due("if, not true, and q fails", () -> x.kept(0, store(7, 7, 0)), false);
        int clear = x.make(12, 0, x.make(0, 0, 0, 0), 0);
        int raise = x.make(12, 0, x.make(0, 1, 0, 0), 0);
        x.promise(equal, x.make(13, clear, raise, 0), more);
        due("the second command from store 0 too", () -> x.kept(0, 3), true);
    }

    private static void loopEndsWhatMustHold() {
        PromiseDesk x = new PromiseDesk();
        int v0 = x.make(1, 0, 0, 0);
        int five = x.make(0, 5, 0, 0);
        int below = x.make(5, v0, five, 0);
        int always = x.make(6, v0, v0, 0);
        int never = x.make(8, always, 0, 0);
        int up = x.make(12, 0, x.make(2, v0, x.make(0, 1, 0, 0), 0), 0);
        int loop = x.make(15, below, below, up);
        int upThenLoop = x.make(13, up, loop, 0);
        int loopThenUp = x.make(13, loop, up, 0);
        x.promise(always, upThenLoop, never);
        due("the invariant, not q, behind the command before", () -> x.kept(0, 3), true);
        due("the invariant fails there", () -> x.kept(0, 4), false);
        x.promise(always, loopThenUp, never);
        due("the invariant in the store itself", () -> x.kept(0, 4), true);
        due("it fails there", () -> x.kept(0, 5), false);
        due("the body, invariant and condition", () -> x.kept(1, 3), true);
        due("the body leaves the invariant", () -> x.kept(1, 4), false);
        due("no invariant, no duty", () -> x.kept(1, 5), true);
        due("never invariant without the condition", () -> x.decide(2), PromiseDesk.VALID);
        // What is to hold behind a loop is looked for behind the commands that follow it.
        int always5 = x.make(15, below, always, up);
        int is6 = x.make(6, v0, x.make(0, 6, 0, 0), 0);
        int is7 = x.make(6, v0, x.make(0, 7, 0, 0), 0);
        x.promise(always, x.make(13, x.make(13, always5, up, 0), up, 0), is7);
        due("behind both commands that follow", () -> x.kept(2, 5), true);
        due("not behind one of them", () -> x.kept(2, 6), false);
        due("not in the store itself", () -> x.kept(2, 7), false);
        int setTo6 = x.make(12, 0, x.make(0, 6, 0, 0), 0);
        x.promise(always, x.make(13, x.make(13, always5, up, 0), setTo6, 0), is6);
        due("the nearest command goes first", () -> x.decide(2), PromiseDesk.VALID);
    }

    /** Promise 8. */
    private static void decideDuties() {
        PromiseDesk x = loopDesk();
        int last = x.make(5, x.make(1, 2, 0, 0), x.make(0, 15, 0, 0), 0);
        int never = x.make(8, 2, 0, 0);
        x.promise(2, 4, last);
        due("the least of the broken", () -> x.decide(0), store(0, 0, 15));
        x.promise(2, 4, never);
        due("the first store", () -> x.decide(0), 0);
        x.promise(never, 4, never);
        due("none", () -> x.decide(0), PromiseDesk.VALID);
        due("the constant", () -> PromiseDesk.VALID, -1);
        int full = x.make(7, 16, x.make(2, x.make(1, 1, 0, 0), 1, 0), 0);
        int fullest = x.make(7, 16, x.make(2, 0, 1, 0), 0);
        int top = x.make(8, x.make(9, fullest, full, 0), 0, 0);
        x.promise(x.make(8, last, 0, 0), 4, top);
        due("the greatest store alone", () -> x.decide(0), 4095);
        due("the greatest store is looked at", () -> x.broken(0, 0, 4095), 1);
    }

    /** Promise 9. */
    private static void brokenDuties() {
        PromiseDesk x = loopDesk();
        x.promise(2, 4, 3);
        due("all stores", () -> x.broken(0, 0, 4095), 3840);
        due("from and to are in", () -> x.broken(0, 16, 17), 1);
        due("one store, broken", () -> x.broken(0, 17, 17), 1);
        due("one store, kept", () -> x.broken(0, 16, 16), 0);
        due("the first stores", () -> x.broken(0, 0, 15), 15);
        due("the last store", () -> x.broken(0, 4095, 4095), 1);
        x.promise(2, 5, 2);
        due("a valid duty", () -> x.broken(2, 0, 4095), 0);
    }

    /** Promise 10. */
    private static void partOfPairs() {
        PromiseDesk x = loopDesk();
        int never = x.make(8, 2, 0, 0);
        x.promise(2, 4, never);
        due("no pair is kept", () -> x.part(), 0.0);
        x.promise(2, 4, 3);
        due("a part of one duty", () -> x.part(), 256.0 / 4096.0);
        x.promise(2, 5, never);
        due("a part of three duties", () -> x.part(), (double) (4096 + 4096 + 256) / (3 * 4096));
        x.promise(2, 5, 2);
        due("all pairs are kept", () -> x.part(), 1.0);
    }

    /** Promise 11. */
    private static void counts() {
        PromiseDesk x = loopDesk();
        due("nodes", () -> x.count(0), 6);
        due("no promise", () -> x.count(1), 0);
        due("no promise, none valid", () -> x.count(2), 0);
        x.promise(2, 5, 3);
        due("duties", () -> x.count(1), 3);
        due("valid duties", () -> x.count(2), 2);
        x.promise(2, 4, 2);
        due("duties of the next promise", () -> x.count(1), 1);
        due("valid duties of the next promise", () -> x.count(2), 1);
        dueArgument("below 0", () -> x.count(-1));
        dueArgument("3", () -> x.count(3));
        dueArgument("the least int", () -> x.count(Integer.MIN_VALUE));
    }

    /** The exceptions of promises 7 to 10, in the order in which they are named. */
    private static void dutyCallsRefuse() {
        PromiseDesk x = loopDesk();
        dueState("kept without a promise", () -> x.kept(0, 0));
        dueState("decide without a promise", () -> x.decide(0));
        dueState("broken without a promise", () -> x.broken(0, 0, 0));
        x.promise(2, 5, 2);
        for (int i : new int[] {-1, 3, 16, Integer.MIN_VALUE, Integer.MAX_VALUE}) {
            dueState("kept of no duty", () -> x.kept(i, 4095));
            dueState("decide of no duty", () -> x.decide(i));
            dueState("broken of no duty", () -> x.broken(i, 0, 4095));
            dueArgument("kept, store first", () -> x.kept(i, 4096));
            dueArgument("broken, stores first", () -> x.broken(i, 1, 0));
        }
        dueArgument("kept, store below 0", () -> x.kept(0, -1));
        dueArgument("kept, store above 4095", () -> x.kept(0, 4096));
        dueArgument("broken, from below 0", () -> x.broken(0, -1, 5));
        dueArgument("broken, to above 4095", () -> x.broken(0, 0, 4096));
        dueArgument("broken, from above to", () -> x.broken(0, 6, 5));
        // A promise with fewer duties leaves none of the one before.
        x.promise(2, 4, 2);
        dueState("a duty of the promise before", () -> x.decide(1));
    }
}
