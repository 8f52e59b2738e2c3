import java.util.List;
import java.util.function.Supplier;

/**
 * Each sentence of the document that names a boundary case (too small, too large, empty, full, a
 * wrap-around, a refused call) has a test of its own here, in the document's order. No object is
 * used for more than 512 calls, as nothing is promised of later ones.
 */
public final class BoundsTest {

    private interface Call {
        Object answer();
    }

    private interface DeskCall {
        Object answer(PromiseDesk x);
    }

    private static final int LEAST = Integer.MIN_VALUE;
    private static final int MOST = Integer.MAX_VALUE;
    private static final int[] NO_STORES = {-1, 4096, LEAST, MOST};
    private static final int[] END_STORES = {0, 4095};
    private static final Class<?> ARGUMENT = IllegalArgumentException.class;
    private static final Class<?> STATE = IllegalStateException.class;

    private static String sentence = "";
    private static int tested = 0;
    private static int looks = 0;
    private static int wrong = 0;

    public static void main(String[] args) {
        terms();
        commandTerms();
        promises1To5();
        promises6To11();
        if (wrong != 0) {
            System.out.println(wrong + " answers are not as due");
            System.exit(1);
        }
        System.out.println(tested + " sentences with a boundary hold, by " + looks + " looks");
    }

    private static void terms() {
        test("used for at most 512 calls", BoundsTest::call512);
        test("three variables 0, 1, 2, each 0 .. 15; its NUMBER is v0 + 16 * v1 + 256 * v2",
                BoundsTest::allStores);
        test("NODES have numbers 0, 1, .. in the order of their making, at most 60",
                BoundsTest::numbersOfNodes);
        test("where a word is a node, that was made before", BoundsTest::wordsMadeBefore);
        test("HEIGHT is 1 more than the greatest", BoundsTest::greatestHeight);
        test("(1 without)", BoundsTest::heightOfLeaves);
        test("HEIGHT .. at most 6", BoundsTest::heightSix);
        test("Words that a kind has not are not looked at", BoundsTest::wordsNotLookedAt);
        test("all is reckoned with wrapping", BoundsTest::farValues);
        test("0 the number a, -100 .. 100", BoundsTest::numberBounds);
        test("1 the variable a, 0 .. 2", BoundsTest::variableBounds);
        test("4 a * b with the number a, -16 .. 16", BoundsTest::factorBounds);
        test("In 2 and 3 both words are expressions", BoundsTest::sumWords);
        test("and an expression b", BoundsTest::factorWord);
        test("5 a < b", BoundsTest::lessAtEqual);
        test("6 a = b", BoundsTest::equalBesideEqual);
        test("5, 6, of expressions", BoundsTest::comparedWords);
        test("7 divisible by the number a, 1 .. 16", BoundsTest::divisorBounds);
        test("7 the expression b is divisible", BoundsTest::divisibleAroundZero);
        test("8, 9, 10, of conditions", BoundsTest::joinedWords);
    }

    private static void commandTerms() {
        test("12 the variable a, 0 .. 2", BoundsTest::changedVariable);
        test("12 what the expression b gives", BoundsTest::becomesWord);
        test("12 modulo 16 (0 .. 15)", BoundsTest::moduloSixteen);
        test("13, 14, 15: their words", BoundsTest::commandWords);
        test("each command that is begun is a STEP", BoundsTest::stepsOfCommands);
        test("(a loop once, its body each time anew)", BoundsTest::stepsOfLoops);
        test("what must hold, 12: q in s with the variable changed", BoundsTest::mustHoldWraps);
        test("what must hold, 15: its invariant in s", BoundsTest::mustHoldAtLoops);
        test("duties, 11, 12: none", BoundsTest::noDuties);
        test("duties: At most 16", BoundsTest::mostDuties);
        test("A call ends by the first exception named with it", BoundsTest::firstException);
        test("and changes nothing then", BoundsTest::changesNothing);
        test("VALID = -1", () -> due("VALID", () -> PromiseDesk.VALID, -1));
    }

    private static void promises1To5() {
        test("1: No nodes", BoundsTest::newHasNoNodes);
        test("1: no promise", BoundsTest::newHasNoPromise);
        test("2: there is no such kind", BoundsTest::noSuchKind);
        test("2: a word is not as it must be", BoundsTest::oneWrongWord);
        test("2: there are 60 nodes", BoundsTest::sixtyNodes);
        test("2: its height would be above 6", BoundsTest::tooHigh);
        test("3: there is no such expression", BoundsTest::noSuchExpression);
        test("3: store is not 0 .. 4095", BoundsTest::valueStores);
        test("4: there is no such condition", BoundsTest::noSuchCondition);
        test("4: store is not 0 .. 4095", BoundsTest::holdsStores);
        test("5: there is no such command", BoundsTest::noSuchCommand);
        test("5: store is not 0 .. 4095", BoundsTest::runStores);
        test("5: fuel is not 1 .. 500", BoundsTest::fuelBounds);
        test("5: it would take more steps than fuel", BoundsTest::fuelEnds);
    }

    private static void promises6To11() {
        test("6: in place of the one before", BoundsTest::promiseReplaced);
        test("6: one of the nodes is not what it must be", BoundsTest::promiseNodes);
        test("6: there would be more than 16 duties", BoundsTest::tooManyDuties);
        test("6: (the promise before stays then)", BoundsTest::promiseStays);
        test("7: duty i (from 0)", BoundsTest::keptFromZero);
        test("7: store is not 0 .. 4095", BoundsTest::keptStores);
        test("7: there is no such duty", BoundsTest::keptNoDuty);
        test("8: The least number of a store", BoundsTest::leastStores);
        test("8: VALID if there is none", BoundsTest::validDuty);
        test("8: there is no such duty", BoundsTest::decideNoDuty);
        test("9: the stores whose numbers are from .. to", BoundsTest::brokenEnds);
        test("9: not 0 <= from <= to <= 4095", BoundsTest::brokenRange);
        test("9: there is no such duty", BoundsTest::brokenNoDuty);
        test("10: the part that is kept", BoundsTest::partEnds);
        test("10: there is no promise", BoundsTest::partOfNoPromise);
        test("11: 0 how many nodes there are", BoundsTest::countNodes);
        test("11: 1 how many duties the promise has (0 for none)", BoundsTest::countDuties);
        test("11: 2 how many of them are valid", BoundsTest::countValid);
        test("11: another number", BoundsTest::countOther);
    }

    private static void test(String words, Runnable test) {
        sentence = words;
        tested++;
        try {
            test.run();
        } catch (RuntimeException e) {
            wrong++;
            System.out.println("[" + words + "] is not looked at to its end, by " + e);
        }
    }

    private static Object answerOf(Call call) {
        try {
            return call.answer();
        } catch (RuntimeException e) {
            return e.getClass();
        }
    }

    private static void due(String what, Call call, Object want) {
        looks++;
        Object got = answerOf(call);
        if (!got.equals(want)) {
            wrong++;
            System.out.println("[" + sentence + "] " + what + " answered " + got
                    + ", due is " + want);
        }
    }

    /** A refused call leaves a desk as one that was made alike and never called so. */
    private static void refused(
            Supplier<PromiseDesk> maker, String what, DeskCall call, Class<?> why) {
        PromiseDesk x = maker.get();
        due(what, () -> call.answer(x), why);
        due(what + ", what stands behind it", () -> allOf(x), allOf(maker.get()));
    }

    private static void refusedMake(
            Supplier<PromiseDesk> maker, int kind, int a, int b, int c, Class<?> why) {
        refused(maker, made(kind, a, b, c), x -> x.make(kind, a, b, c), why);
    }

    private static void taken(
            Supplier<PromiseDesk> maker, int kind, int a, int b, int c, int number) {
        PromiseDesk x = maker.get();
        due(made(kind, a, b, c), () -> x.make(kind, a, b, c), number);
        due(made(kind, a, b, c) + " is there", () -> x.count(0), number + 1);
    }

    private static String made(int kind, int a, int b, int c) {
        return "make(" + kind + ", " + a + ", " + b + ", " + c + ")";
    }

    /** All that can be seen of a desk, by fewer than 300 calls. */
    private static String allOf(PromiseDesk x) {
        StringBuilder all = new StringBuilder();
        for (int what = 0; what <= 2; what++) {
            all.append(x.count(what)).append(' ');
        }
        all.append(answerOf(x::part));
        for (int i = 0; i <= x.count(1); i++) {
            int duty = i;
            all.append('\n').append(answerOf(() -> x.decide(duty)));
            all.append(' ').append(answerOf(() -> x.broken(duty, 0, 4095)));
        }
        for (int n = 0; n <= x.count(0); n++) {
            int node = n;
            all.append('\n').append(answerOf(() -> x.value(node, 1383)));
            all.append(' ').append(answerOf(() -> x.holds(node, 1383)));
            all.append(' ').append(answerOf(() -> x.run(node, 1383, 60)));
        }
        return all.append('\n').append(answerOf(() -> x.make(0, 77, 0, 0))).toString();
    }

    private static int store(int v0, int v1, int v2) {
        return v0 + 16 * v1 + 256 * v2;
    }

    /** 0 the variable 0, 1 a condition that always holds, 2 nothing; the next node is 3. */
    private static PromiseDesk smallDesk() {
        PromiseDesk x = new PromiseDesk();
        x.make(1, 0, 0, 0);
        x.make(6, 0, 0, 0);
        x.make(11, 0, 0, 0);
        return x;
    }

    private static final int ALWAYS = 2;
    private static final int NEVER = 3;
    private static final int NOTHING = 4;
    private static final int LOOP = 5;
    private static final int THREE_LOOPS = 7;
    private static final int FOUR_LOOPS = 8;
    private static final int SEVEN_LOOPS = 10;
    private static final int EIGHT_LOOPS = 11;
    private static final int UP = 14;
    private static final int BELOW_ONE = 15;
    private static final int ENDLESS = 16;

    /** A desk with nodes of all sorts, 17 in all, and no promise. */
    private static PromiseDesk loopDesk() {
        PromiseDesk x = new PromiseDesk();
        x.make(1, 0, 0, 0);
        x.make(0, 1, 0, 0);
        x.make(6, 0, 0, 0);
        x.make(5, 0, 0, 0);
        x.make(11, 0, 0, 0);
        x.make(15, NEVER, ALWAYS, NOTHING);
        int two = x.make(13, LOOP, LOOP, 0);
        x.make(13, two, LOOP, 0);
        int four = x.make(13, two, two, 0);
        int fourElse = x.make(14, NEVER, two, two);
        x.make(13, four, THREE_LOOPS, 0);
        x.make(13, four, fourElse, 0);
        x.make(1, 2, 0, 0);
        int more = x.make(2, 0, 1, 0);
        x.make(12, 0, more, 0);
        x.make(5, 0, 1, 0);
        x.make(15, ALWAYS, BELOW_ONE, UP);
        return x;
    }

    /** A loop desk with the three duties of a loop, of which the last is broken where v0 > 0. */
    private static PromiseDesk promisedDesk() {
        PromiseDesk x = loopDesk();
        x.promise(ALWAYS, LOOP, BELOW_ONE);
        return x;
    }

    /** A promised desk with all its 60 nodes. */
    private static PromiseDesk fullDesk() {
        PromiseDesk x = promisedDesk();
        for (int node = 17; node < 60; node++) {
            x.make(0, node, 0, 0);
        }
        return x;
    }

    /** Expressions of the heights 1 .. 6, conditions of 2 .. 6, commands of 1 .. 6: 17 nodes. */
    private static PromiseDesk highDesk() {
        PromiseDesk x = new PromiseDesk();
        x.make(1, 0, 0, 0);
        for (int height = 2; height <= 6; height++) {
            x.make(4, 1, expression(height - 1), 0);
        }
        x.make(6, 0, 0, 0);
        for (int height = 3; height <= 6; height++) {
            x.make(8, condition(height - 1), 0, 0);
        }
        x.make(11, 0, 0, 0);
        for (int height = 2; height <= 6; height++) {
            x.make(13, command(height - 1), command(1), 0);
        }
        return x;
    }

    private static int expression(int height) {
        return height - 1;
    }

    private static int condition(int height) {
        return 4 + height;
    }

    private static int command(int height) {
        return 10 + height;
    }

    // What each kind's words are: e expression, p condition, c command, 1 a number or a
    // variable for which 1 is right, - not looked at.
    private static final String[] WORDS = {
        "1--", "1--", "ee-", "ee-", "1e-", "ee-", "ee-", "1e-",
        "p--", "pp-", "pp-", "---", "1e-", "cc-", "pcc", "ppc"};

    private static boolean isNode(char role) {
        return role == 'e' || role == 'p' || role == 'c';
    }

    /** The node of a high desk for a word, as low as it can be or of a given height. */
    private static int high(char role, int height) {
        switch (role) {
            case 'e': return expression(height);
            case 'p': return condition(Math.max(2, height));
            case 'c': return command(height);
            default: return 1;
        }
    }

    private static int[] lowWords(int kind) {
        int[] words = new int[3];
        for (int k = 0; k < 3; k++) {
            words[k] = high(WORDS[kind].charAt(k), 1);
        }
        return words;
    }

    /** The words that are right in a small desk. */
    private static int[] smallWords(int kind) {
        int[] words = new int[3];
        for (int k = 0; k < 3; k++) {
            char role = WORDS[kind].charAt(k);
            words[k] = isNode(role) ? "epc".indexOf(role) : 1;
        }
        return words;
    }

    /** In a small desk, each of the numbers in place of a word that is else right. */
    private static void refusedWords(int kind, int position, int... numbers) {
        for (int number : numbers) {
            int[] w = smallWords(kind);
            w[position] = number;
            refusedMake(BoundsTest::smallDesk, kind, w[0], w[1], w[2], ARGUMENT);
        }
    }

    private static void takenWords(int kind, int position, int... numbers) {
        for (int number : numbers) {
            int[] w = smallWords(kind);
            w[position] = number;
            taken(BoundsTest::smallDesk, kind, w[0], w[1], w[2], 3);
        }
    }

    /** A word that is a node: one of the right sort goes, the other sorts do not. */
    private static void refusedSorts(int kind, int position) {
        int right = "epc".indexOf(WORDS[kind].charAt(position));
        takenWords(kind, position, right);
        for (int other = 0; other < 3; other++) {
            if (other != right) {
                refusedWords(kind, position, other);
            }
        }
    }

    // ---- What it is, Terms

    private static void call512() {
        last("make", x -> x.make(0, 5, 0, 0), 17);
        last("make, refused", x -> x.make(0, 101, 0, 0), ARGUMENT);
        last("value", x -> x.value(0, 4095), 15);
        last("holds", x -> x.holds(ALWAYS, 4095), true);
        last("run", x -> x.run(UP, 15, 1), 0);
        last("run, refused", x -> x.run(ENDLESS, 15, 500), STATE);
        last("promise", x -> x.promise(ALWAYS, THREE_LOOPS, NEVER), 7);
        last("promise, refused", x -> x.promise(ALWAYS, EIGHT_LOOPS, NEVER), STATE);
        last("kept", x -> x.kept(14, 1), false);
        last("decide", x -> x.decide(14), 1);
        last("broken", x -> x.broken(14, 0, 4095), 3840);
        last("part", x -> x.part(), (15 * 4096 - 3840) / (15 * 4096.0));
        last("count", x -> x.count(2), 14);
    }

    /** The call is the desk's 512th; the ones before are some of each, the dearest too. */
    private static void last(String what, DeskCall call, Object want) {
        PromiseDesk x = loopDesk();
        x.promise(ALWAYS, SEVEN_LOOPS, BELOW_ONE);
        for (int calls = 18; calls < 511; calls++) {
            switch (calls % 8) {
                case 0: answerOf(() -> x.make(16, 0, 0, 0)); break;
                case 1: answerOf(() -> x.run(ENDLESS, 0, 500)); break;
                case 2: answerOf(() -> x.promise(ALWAYS, EIGHT_LOOPS, NEVER)); break;
                case 3: x.promise(ALWAYS, SEVEN_LOOPS, BELOW_ONE); break;
                case 4: x.count(2); break;
                case 5: x.broken(14, 0, 4095); break;
                case 6: x.value(0, 7); break;
                default: x.part(); break;
            }
        }
        due(what + " as the 512th call", () -> call.answer(x), want);
    }

    private static void allStores() {
        for (int high = 0; high < 256; high++) {
            PromiseDesk x = new PromiseDesk();
            for (int variable = 0; variable < 3; variable++) {
                x.make(1, variable, 0, 0);
            }
            int v1 = high % 16;
            int v2 = high / 16;
            for (int k = 0; k < 16; k++) {
                int v0 = k;
                int s = store(v0, v1, v2);
                due("variable 0 of " + s, () -> x.value(0, s), v0);
                due("variable 1 of " + s, () -> x.value(1, s), v1);
                due("variable 2 of " + s, () -> x.value(2, s), v2);
            }
        }
    }

    private static void numbersOfNodes() {
        PromiseDesk x = new PromiseDesk();
        for (int i = 0; i < 60; i++) {
            int number = i;
            due("node " + i, () -> x.make(0, number, 0, 0), number);
        }
        for (int i = 0; i < 60; i++) {
            int number = i;
            due("what node " + i + " is", () -> x.value(number, 0), number);
        }
        due("a node too many", () -> x.make(0, 60, 0, 0), STATE);
        due("it has no number", () -> x.value(60, 0), ARGUMENT);
    }

    private static void wordsMadeBefore() {
        for (int kind = 0; kind <= 15; kind++) {
            for (int position = 0; position < 3; position++) {
                if (isNode(WORDS[kind].charAt(position))) {
                    // 3 would be the new node itself, the others come later, or never.
                    refusedWords(kind, position, 3, 4, 59, 60, -1, LEAST, MOST);
                }
            }
        }
        PromiseDesk x = smallDesk();
        due("a sum with a node to come", () -> x.make(2, 0, 4, 0), ARGUMENT);
        x.make(0, 9, 0, 0);
        x.make(0, 8, 0, 0);
        due("a sum with the last node made", () -> x.make(2, 0, 4, 0), 5);
        due("the sum", () -> x.value(5, 7), 15);
    }

    private static void greatestHeight() {
        for (int kind = 2; kind <= 15; kind++) {
            for (int position = 0; position < 3; position++) {
                if (isNode(WORDS[kind].charAt(position))) {
                    heightByWord(kind, position);
                }
            }
        }
        // The heights of the words are not put together.
        taken(BoundsTest::highDesk, 2, expression(5), expression(5), 0, 17);
        taken(BoundsTest::highDesk, 14, condition(5), command(5), command(5), 17);
        taken(BoundsTest::highDesk, 15, condition(5), condition(5), command(5), 17);
    }

    /** A node with one word of height h, the others low, has the height h + 1. */
    private static void heightByWord(int kind, int position) {
        char role = WORDS[kind].charAt(position);
        for (int height = 3; height <= 5; height++) {
            int[] w = lowWords(kind);
            w[position] = high(role, height);
            PromiseDesk x = highDesk();
            int node = x.make(kind, w[0], w[1], w[2]);
            for (int above = height + 2; above <= 6; above++) {
                node = makeAbove(x, kind, node);
            }
            int top = node;
            String what = "above " + made(kind, w[0], w[1], w[2]) + " up to ";
            due(what + 6, () -> top, 17 + 5 - height);
            due(what + 7, () -> makeAbove(x, kind, top), STATE);
        }
    }

    /** A node one higher than the given one, which is of the kind or of its sort. */
    private static int makeAbove(PromiseDesk x, int kind, int node) {
        if (kind <= 4) {
            return x.make(4, 1, node, 0);
        }
        return kind <= 10 ? x.make(8, node, 0, 0) : x.make(13, node, node, 0);
    }

    private static void heightOfLeaves() {
        for (int leaf : new int[] {0, 1, 11}) {
            PromiseDesk x = new PromiseDesk();
            int node = x.make(leaf, 2, 0, 0);
            for (int height = 2; height <= 6; height++) {
                int below = node;
                due("height " + height + " above kind " + leaf,
                        () -> makeAbove(x, leaf, below), height - 1);
                node = below + 1;
            }
            int top = node;
            due("height 7 above kind " + leaf, () -> makeAbove(x, leaf, top), STATE);
        }
    }

    private static void heightSix() {
        for (int kind = 2; kind <= 15; kind++) {
            for (int position = 0; position < 3; position++) {
                char role = WORDS[kind].charAt(position);
                if (isNode(role)) {
                    int[] w = lowWords(kind);
                    w[position] = high(role, 5);
                    taken(BoundsTest::highDesk, kind, w[0], w[1], w[2], 17);
                    w[position] = high(role, 6);
                    refusedMake(BoundsTest::highDesk, kind, w[0], w[1], w[2], STATE);
                }
            }
        }
    }

    private static void wordsNotLookedAt() {
        for (int kind = 0; kind <= 15; kind++) {
            for (int position = 0; position < 3; position++) {
                if (WORDS[kind].charAt(position) == '-') {
                    takenWords(kind, position, -1, 0, 1, 2, 3, 4096, LEAST, MOST);
                    // A word that would be too high a node, if it were one.
                    int[] w = lowWords(kind);
                    w[position] = expression(6);
                    taken(BoundsTest::highDesk, kind, w[0], w[1], w[2], 17);
                }
            }
        }
        // Numbers are words that are no nodes, though there be high nodes of such numbers.
        taken(BoundsTest::highDesk, 0, condition(6), 0, 0, 17);
        taken(BoundsTest::highDesk, 4, command(6), expression(5), 0, 17);
        taken(BoundsTest::highDesk, 7, command(6), expression(5), 0, 17);
        PromiseDesk x = smallDesk();
        x.make(8, 1, LEAST, MOST);
        x.make(12, 2, 0, MOST);
        due("not, with other words", () -> x.holds(3, 0), false);
        due("becomes, with another word", () -> x.run(4, 9, 1), store(9, 0, 9));
    }

    /** Six levels reach no further than 100 * 16^5, so no value comes to the ends of an int. */
    private static void farValues() {
        due("the most", () -> farValue(100, 16, 16), 104857600);
        due("the least", () -> farValue(-100, 16, 16), -104857600);
        due("the least by a factor", () -> farValue(100, 16, -16), -104857600);
        due("the most by two signs", () -> farValue(-100, 16, -16), 104857600);
        due("times 0", () -> farValue(100, 16, 0), 0);
        PromiseDesk x = new PromiseDesk();
        int most = far(x, 100, 16, 4);
        int least = far(x, -100, 16, 4);
        due("a sum", () -> x.value(x.make(2, most, most, 0), 0), 13107200);
        due("a sum below 0", () -> x.value(x.make(2, least, least, 0), 0), -13107200);
        due("a difference", () -> x.value(x.make(3, most, least, 0), 0), 13107200);
        due("a difference below 0", () -> x.value(x.make(3, least, most, 0), 0), -13107200);
        due("less", () -> x.holds(x.make(5, least, most, 0), 0), true);
        due("not less", () -> x.holds(x.make(5, most, least, 0), 0), false);
        due("not equal", () -> x.holds(x.make(6, most, least, 0), 0), false);
    }

    private static int farValue(int number, int factor, int lastFactor) {
        PromiseDesk x = new PromiseDesk();
        return x.value(x.make(4, lastFactor, far(x, number, factor, 4), 0), 0);
    }

    private static int far(PromiseDesk x, int number, int factor, int times) {
        int node = x.make(0, number, 0, 0);
        for (int k = 0; k < times; k++) {
            node = x.make(4, factor, node, 0);
        }
        return node;
    }

    private static void numberBounds() {
        refusedWords(0, 0, -101, 101, LEAST, MOST);
        for (int number : new int[] {-100, -1, 0, 1, 100}) {
            PromiseDesk x = smallDesk();
            due("the number " + number, () -> x.make(0, number, 0, 0), 3);
            due("its value", () -> x.value(3, 4095), number);
        }
    }

    private static void variableBounds() {
        refusedWords(1, 0, -1, 3, LEAST, MOST);
        for (int variable : new int[] {0, 1, 2}) {
            PromiseDesk x = smallDesk();
            due("the variable " + variable, () -> x.make(1, variable, 0, 0), 3);
            due("its value", () -> x.value(3, 15 << (4 * variable)), 15);
            due("the others' values", () -> x.value(3, 4095 - (15 << (4 * variable))), 0);
        }
    }

    private static void factorBounds() {
        refusedWords(4, 0, -17, 17, LEAST, MOST);
        for (int factor : new int[] {-16, -1, 0, 1, 16}) {
            PromiseDesk x = smallDesk();
            due("the factor " + factor, () -> x.make(4, factor, 0, 0), 3);
            due("its value", () -> x.value(3, 15), 15 * factor);
        }
    }

    private static void sumWords() {
        for (int kind = 2; kind <= 3; kind++) {
            refusedSorts(kind, 0);
            refusedSorts(kind, 1);
        }
        PromiseDesk x = smallDesk();
        due("a sum of one node twice", () -> x.value(x.make(2, 0, 0, 0), 15), 30);
        due("a difference of one node twice", () -> x.value(x.make(3, 0, 0, 0), 15), 0);
    }

    private static void factorWord() {
        refusedSorts(4, 1);
        // The word a is a number, even where there is a node of that number.
        PromiseDesk x = smallDesk();
        due("2 * v0, though node 2 is a command", () -> x.value(x.make(4, 2, 0, 0), 7), 14);
    }

    private static PromiseDesk comparing(int kind) {
        PromiseDesk x = new PromiseDesk();
        x.make(1, 0, 0, 0);
        x.make(1, 1, 0, 0);
        x.make(kind, 0, 1, 0);
        return x;
    }

    private static void lessAtEqual() {
        PromiseDesk x = comparing(5);
        for (int v = 0; v < 16; v++) {
            int value = v;
            due("equal is not less", () -> x.holds(2, store(value, value, 0)), false);
            if (v > 0) {
                due("one less", () -> x.holds(2, store(value - 1, value, 0)), true);
                due("one more", () -> x.holds(2, store(value, value - 1, 0)), false);
            }
        }
        due("the least and the most", () -> x.holds(2, store(0, 15, 0)), true);
        due("the most and the least", () -> x.holds(2, store(15, 0, 0)), false);
    }

    private static void equalBesideEqual() {
        PromiseDesk x = comparing(6);
        for (int v = 0; v < 16; v++) {
            int value = v;
            due("equal", () -> x.holds(2, store(value, value, 0)), true);
            if (v > 0) {
                due("one less", () -> x.holds(2, store(value - 1, value, 0)), false);
                due("one more", () -> x.holds(2, store(value, value - 1, 0)), false);
            }
        }
        // 0 and 16 are two numbers, though a variable would be 0 of both.
        int sixteen = x.make(0, 16, 0, 0);
        int equal = x.make(6, 0, sixteen, 0);
        due("0 is not 16", () -> x.holds(equal, 0), false);
    }

    private static void comparedWords() {
        for (int kind = 5; kind <= 6; kind++) {
            refusedSorts(kind, 0);
            refusedSorts(kind, 1);
        }
    }

    private static void divisorBounds() {
        refusedWords(7, 0, 0, 17, -1, -16, LEAST, MOST);
        for (int divisor : new int[] {1, 2, 15, 16}) {
            PromiseDesk x = smallDesk();
            due("the divisor " + divisor, () -> x.make(7, divisor, 0, 0), 3);
            for (int v = 0; v < 16; v++) {
                int value = v;
                due(v + " by " + divisor, () -> x.holds(3, value), value % divisor == 0);
            }
        }
        refusedSorts(7, 1);
    }

    private static void divisibleAroundZero() {
        for (int divisor = 1; divisor <= 16; divisor++) {
            for (int number : new int[] {-100, -33, -32, -31, -17, -16, -15, -1, 0, 1, 16, 17}) {
                PromiseDesk x = new PromiseDesk();
                x.make(0, number, 0, 0);
                x.make(7, divisor, 0, 0);
                due(number + " by " + divisor, () -> x.holds(1, 0),
                        Math.floorMod(number, divisor) == 0);
            }
        }
    }

    private static void joinedWords() {
        refusedSorts(8, 0);
        for (int kind = 9; kind <= 10; kind++) {
            refusedSorts(kind, 0);
            refusedSorts(kind, 1);
        }
    }

    private static void changedVariable() {
        refusedWords(12, 0, -1, 3, LEAST, MOST);
        for (int variable : new int[] {0, 1, 2}) {
            PromiseDesk x = new PromiseDesk();
            x.make(0, 0, 0, 0);
            x.make(0, 15, 0, 0);
            due("becomes, variable " + variable, () -> x.make(12, variable, 0, 0), 2);
            x.make(12, variable, 1, 0);
            int bits = 15 << (4 * variable);
            due("to 0, the others stay 15", () -> x.run(2, 4095, 1), 4095 - bits);
            due("to 15, the others stay 0", () -> x.run(3, 0, 1), bits);
        }
    }

    private static void becomesWord() {
        refusedSorts(12, 1);
    }

    private static void moduloSixteen() {
        for (int n = -100; n <= 100; n++) {
            int number = n;
            PromiseDesk x = new PromiseDesk();
            x.make(0, number, 0, 0);
            for (int variable = 0; variable < 3; variable++) {
                int command = x.make(12, variable, 0, 0);
                int want = Math.floorMod(number, 16) << (4 * variable);
                due("becomes " + n, () -> x.run(command, 0, 1), want);
            }
        }
        PromiseDesk x = loopDesk();
        int down = x.make(12, 0, x.make(3, 0, 1, 0), 0);
        due("15 and 1 more", () -> x.run(UP, 15, 1), 0);
        due("14 and 1 more", () -> x.run(UP, 14, 1), 15);
        due("0 and 1 less", () -> x.run(down, 0, 1), 15);
        due("nothing is carried to the next variable", () -> x.run(UP, 4095, 1), 4080);
        due("nothing is taken from the next variable", () -> x.run(down, 16, 1), 31);
        int far = x.make(12, 1, far(x, -99, 15, 3), 0);
        due("far below 0", () -> x.run(far, 0, 1), 16 * Math.floorMod(-99 * 15 * 15 * 15, 16));
    }

    private static void commandWords() {
        refusedSorts(13, 0);
        refusedSorts(13, 1);
        for (int kind = 14; kind <= 15; kind++) {
            for (int position = 0; position < 3; position++) {
                refusedSorts(kind, position);
            }
        }
    }

    // ---- Steps, what must hold, duties

    private static void takesSteps(PromiseDesk x, String what, int[] start, int steps, int end) {
        due(what + ", just enough", () -> x.run(start[0], start[1], steps), end);
        due(what + ", more than enough", () -> x.run(start[0], start[1], 500), end);
        if (steps > 1) {
            due(what + ", one too few", () -> x.run(start[0], start[1], steps - 1), STATE);
        }
    }

    private static void stepsOfCommands() {
        PromiseDesk x = loopDesk();
        int twice = x.make(13, UP, UP, 0);
        int choice = x.make(14, BELOW_ONE, twice, NOTHING);
        takesSteps(x, "nothing", new int[] {NOTHING, 4095}, 1, 4095);
        takesSteps(x, "becomes", new int[] {UP, 3}, 1, 4);
        takesSteps(x, "then", new int[] {twice, 3}, 3, 5);
        takesSteps(x, "if, true", new int[] {choice, 0}, 4, 2);
        takesSteps(x, "if, not true", new int[] {choice, 1}, 2, 1);
        takesSteps(x, "seven loops of no round", new int[] {SEVEN_LOOPS, 9}, 13, 9);
    }

    private static void stepsOfLoops() {
        PromiseDesk x = loopDesk();
        int some = x.make(8, BELOW_ONE, 0, 0);
        int loop = x.make(15, some, NEVER, UP);
        int slow = x.make(15, some, NEVER, x.make(13, UP, NOTHING, 0));
        int nested = x.make(15, some, NEVER, loop);
        takesSteps(x, "no round", new int[] {loop, 16}, 1, 16);
        takesSteps(x, "one round", new int[] {loop, 31}, 2, 16);
        takesSteps(x, "15 rounds", new int[] {loop, 1}, 16, 0);
        takesSteps(x, "15 rounds of three steps", new int[] {slow, 1}, 46, 0);
        takesSteps(x, "a loop in a loop, no round", new int[] {nested, 0}, 1, 0);
        takesSteps(x, "a loop in a loop", new int[] {nested, 14}, 4, 0);
    }

    private static void mustHoldWraps() {
        PromiseDesk x = loopDesk();
        int down = x.make(12, 0, x.make(3, 0, 1, 0), 0);
        int isLast = x.make(6, 0, x.make(0, 15, 0, 0), 0);
        x.promise(ALWAYS, UP, BELOW_ONE);
        due("up from 15", () -> x.kept(0, 15), true);
        due("up from 14", () -> x.kept(0, 14), false);
        due("up from 15 alone", () -> x.broken(0, 0, 4095), 3840);
        due("up from 15, the others 15", () -> x.kept(0, 4095), true);
        x.promise(ALWAYS, down, isLast);
        due("down from 0", () -> x.kept(0, 0), true);
        due("down from 1", () -> x.kept(0, 1), false);
        due("down from 0 alone", () -> x.broken(0, 0, 4095), 3840);
        due("down from 0, the others 15", () -> x.kept(0, 4080), true);
    }

    private static void mustHoldAtLoops() {
        PromiseDesk x = loopDesk();
        int noRound = x.make(15, NEVER, BELOW_ONE, UP);
        x.promise(ALWAYS, noRound, NEVER);
        due("no round, the invariant holds", () -> x.kept(0, 4080), true);
        due("no round, the invariant fails", () -> x.kept(0, 4081), false);
        x.promise(ALWAYS, noRound, ALWAYS);
        due("no round, q holds alone", () -> x.kept(0, 1), false);
        x.promise(ALWAYS, ENDLESS, NEVER);
        due("endless, the invariant holds", () -> x.kept(0, 0), true);
        due("endless, the invariant fails", () -> x.kept(0, 1), false);
        due("endless, the body", () -> x.kept(1, 0), false);
        due("endless, nothing is to hold behind", () -> x.decide(2), PromiseDesk.VALID);
    }

    private static void noDuties() {
        PromiseDesk x = loopDesk();
        int twice = x.make(13, UP, NOTHING, 0);
        int choice = x.make(14, BELOW_ONE, UP, twice);
        for (int command : new int[] {NOTHING, UP, twice, choice}) {
            due("the first duty alone", () -> x.promise(ALWAYS, command, ALWAYS), 1);
            due("no second", () -> x.decide(1), STATE);
        }
    }

    /** A loop brings two duties, so no promise has just 16: 15 go, 17 are too many. */
    private static void mostDuties() {
        PromiseDesk x = loopDesk();
        int sides = x.make(14, NEVER, FOUR_LOOPS, THREE_LOOPS);
        int moreSides = x.make(14, NEVER, FOUR_LOOPS, FOUR_LOOPS);
        due("15 one behind the other", () -> x.promise(ALWAYS, SEVEN_LOOPS, BELOW_ONE), 15);
        due("the last of them", () -> x.kept(14, 1), false);
        due("17 one behind the other", () -> x.promise(ALWAYS, EIGHT_LOOPS, NEVER), STATE);
        due("15 on the sides of an if", () -> x.promise(ALWAYS, sides, ALWAYS), 15);
        due("17 on the sides of an if", () -> x.promise(ALWAYS, moreSides, NEVER), STATE);
        int nested = x.make(15, NEVER, ALWAYS, LOOP);
        int twoNested = x.make(13, nested, nested, 0);
        int threeLoops = x.make(13, nested, LOOP, 0);
        int sevenLoops = x.make(13, twoNested, threeLoops, 0);
        int eightLoops = x.make(13, twoNested, twoNested, 0);
        due("15 by loops in loops", () -> x.promise(ALWAYS, sevenLoops, BELOW_ONE), 15);
        due("17 by loops in loops", () -> x.promise(ALWAYS, eightLoops, NEVER), STATE);
        due("the 15 are there still", () -> x.count(1), 15);
    }

    private static void firstException() {
        refusedMake(BoundsTest::fullDesk, 16, 0, 0, 0, ARGUMENT);
        refusedMake(BoundsTest::fullDesk, 0, 101, 0, 0, ARGUMENT);
        refusedMake(BoundsTest::fullDesk, 2, 0, 60, 0, ARGUMENT);
        refusedMake(BoundsTest::highDesk, 9, condition(6), expression(1), 0, ARGUMENT);
        refusedMake(BoundsTest::highDesk, 4, 17, expression(6), 0, ARGUMENT);
        refusedMake(BoundsTest::highDesk, 14, condition(6), command(6), -1, ARGUMENT);
        Supplier<PromiseDesk> promised = BoundsTest::promisedDesk;
        refused(promised, "run, wrong store", x -> x.run(ENDLESS, 4096, 1), ARGUMENT);
        refused(promised, "run, no fuel", x -> x.run(ENDLESS, 0, 0), ARGUMENT);
        refused(promised, "run, much fuel", x -> x.run(ENDLESS, 0, 501), ARGUMENT);
        refused(promised, "promise, wrong p", x -> x.promise(0, EIGHT_LOOPS, ALWAYS), ARGUMENT);
        refused(promised, "promise, wrong q", x -> x.promise(ALWAYS, EIGHT_LOOPS, 0), ARGUMENT);
        refused(promised, "kept, store and duty", x -> x.kept(3, 4096), ARGUMENT);
        refused(promised, "kept, both below 0", x -> x.kept(-1, -1), ARGUMENT);
        refused(promised, "broken, range and duty", x -> x.broken(3, 1, 0), ARGUMENT);
        refused(promised, "broken, both below 0", x -> x.broken(-1, -1, 0), ARGUMENT);
        Supplier<PromiseDesk> unpromised = BoundsTest::loopDesk;
        refused(unpromised, "kept, no promise", x -> x.kept(0, -1), ARGUMENT);
        refused(unpromised, "broken, no promise", x -> x.broken(0, 0, 4096), ARGUMENT);
    }

    /** All sorts of refused calls in a row, on one desk. */
    private static void changesNothing() {
        PromiseDesk x = promisedDesk();
        DeskCall[] calls = {
            d -> d.make(16, 0, 0, 0), d -> d.make(0, 101, 0, 0), d -> d.make(2, 0, 17, 0),
            d -> d.make(13, SEVEN_LOOPS, NOTHING, 0), d -> d.value(ALWAYS, 0),
            d -> d.value(0, 4096), d -> d.holds(0, 0), d -> d.holds(ALWAYS, -1),
            d -> d.run(ALWAYS, 0, 1), d -> d.run(UP, 0, 501), d -> d.run(ENDLESS, 9, 500),
            d -> d.promise(0, LOOP, NEVER), d -> d.promise(NEVER, NEVER, NEVER),
            d -> d.promise(NEVER, UP, UP), d -> d.promise(NEVER, EIGHT_LOOPS, NEVER),
            d -> d.kept(0, 4096), d -> d.kept(3, 0), d -> d.decide(3), d -> d.broken(0, 1, 0),
            d -> d.broken(3, 0, 1), d -> d.count(3)};
        for (DeskCall call : calls) {
            due("refused", () -> answerOf(() -> call.answer(x)) instanceof Class, true);
        }
        due("what stands behind them", () -> allOf(x), allOf(promisedDesk()));
        PromiseDesk y = new PromiseDesk();
        due("part of a new desk", y::part, STATE);
        due("what stands behind it", () -> allOf(y), allOf(new PromiseDesk()));
    }

    // ---- Promises 1 to 5

    private static void newHasNoNodes() {
        Supplier<PromiseDesk> none = PromiseDesk::new;
        due("none", () -> new PromiseDesk().count(0), 0);
        refused(none, "value", x -> x.value(0, 0), ARGUMENT);
        refused(none, "holds", x -> x.holds(0, 0), ARGUMENT);
        refused(none, "run", x -> x.run(0, 0, 1), ARGUMENT);
        refused(none, "promise", x -> x.promise(0, 0, 0), ARGUMENT);
        for (int kind = 0; kind <= 15; kind++) {
            if (kind <= 1 || kind == 11) {
                taken(none, kind, 0, 0, 0, 0);
            } else {
                refusedMake(none, kind, kind == 7 ? 1 : 0, 0, 0, ARGUMENT);
            }
        }
        fullDesk();
        due("none, whatever other desks have", () -> new PromiseDesk().count(0), 0);
    }

    private static void newHasNoPromise() {
        promisedDesk();
        for (Supplier<PromiseDesk> maker
                : List.<Supplier<PromiseDesk>>of(PromiseDesk::new, BoundsTest::loopDesk)) {
            due("no duties", () -> maker.get().count(1), 0);
            due("none valid", () -> maker.get().count(2), 0);
            refused(maker, "part", x -> x.part(), STATE);
            refused(maker, "kept", x -> x.kept(0, 0), STATE);
            refused(maker, "decide", x -> x.decide(0), STATE);
            refused(maker, "broken", x -> x.broken(0, 0, 0), STATE);
        }
    }

    private static void noSuchKind() {
        for (int kind : new int[] {-1, 16, 17, -16, LEAST, MOST}) {
            refusedMake(PromiseDesk::new, kind, 0, 0, 0, ARGUMENT);
            refusedMake(BoundsTest::smallDesk, kind, 1, 1, 2, ARGUMENT);
        }
        taken(BoundsTest::smallDesk, 0, 1, 1, 2, 3);
        taken(BoundsTest::smallDesk, 15, 1, 1, 2, 3);
    }

    private static void oneWrongWord() {
        for (int kind = 0; kind <= 15; kind++) {
            int[] right = smallWords(kind);
            taken(BoundsTest::smallDesk, kind, right[0], right[1], right[2], 3);
            for (int position = 0; position < 3; position++) {
                if (WORDS[kind].charAt(position) != '-') {
                    refusedWords(kind, position, 101, -101);
                }
            }
            if (kind != 11) {
                refusedMake(BoundsTest::smallDesk, kind, -101, -101, -101, ARGUMENT);
            }
        }
    }

    private static void sixtyNodes() {
        due("60", () -> fullDesk().count(0), 60);
        refusedMake(BoundsTest::fullDesk, 0, 0, 0, 0, STATE);
        refusedMake(BoundsTest::fullDesk, 1, 2, 0, 0, STATE);
        refusedMake(BoundsTest::fullDesk, 2, 0, 59, 0, STATE);
        refusedMake(BoundsTest::fullDesk, 8, ALWAYS, 0, 0, STATE);
        refusedMake(BoundsTest::fullDesk, 11, 0, 0, 0, STATE);
        refusedMake(BoundsTest::fullDesk, 15, NEVER, ALWAYS, UP, STATE);
        PromiseDesk x = promisedDesk();
        for (int node = 17; node < 59; node++) {
            x.make(0, 0, 0, 0);
        }
        due("the 60th may have words", () -> x.make(2, 0, 58, 0), 59);
        due("it is like any other", () -> x.value(59, 15), 15);
        due("the 61st", () -> x.make(11, 0, 0, 0), STATE);
        due("the 61st again", () -> x.make(11, 0, 0, 0), STATE);
        due("the others can be used", () -> x.promise(ALWAYS, LOOP, NEVER), 3);
    }

    private static void tooHigh() {
        refusedMake(BoundsTest::highDesk, 4, 1, expression(6), 0, STATE);
        refusedMake(BoundsTest::highDesk, 7, 1, expression(6), 0, STATE);
        refusedMake(BoundsTest::highDesk, 12, 1, expression(6), 0, STATE);
        refusedMake(BoundsTest::highDesk, 8, condition(6), 0, 0, STATE);
        refusedMake(BoundsTest::highDesk, 13, command(6), command(6), 0, STATE);
        refusedMake(BoundsTest::fullDesk, 13, SEVEN_LOOPS, NOTHING, 0, STATE);
        PromiseDesk x = highDesk();
        due("too high", () -> x.make(8, condition(6), 0, 0), STATE);
        due("lower ones go on", () -> x.make(8, condition(5), 0, 0), 17);
        due("too high above it", () -> x.make(8, 17, 0, 0), STATE);
        due("the highest can be used", () -> x.value(expression(6), 15), 15);
        due("a high condition", () -> x.holds(condition(6), 0), true);
        due("a high command", () -> x.run(command(6), 4095, 11), 4095);
    }

    private static final int[] NO_NODES = {-1, 17, 59, 60, LEAST, MOST};

    private static void noSuchExpression() {
        for (int node : NO_NODES) {
            refused(BoundsTest::loopDesk, "no node", x -> x.value(node, 0), ARGUMENT);
        }
        for (int node : new int[] {ALWAYS, BELOW_ONE, NOTHING, UP, LOOP, ENDLESS}) {
            refused(BoundsTest::loopDesk, "another sort", x -> x.value(node, 0), ARGUMENT);
        }
        due("the first node", () -> loopDesk().value(0, 7), 7);
        due("node 59", () -> fullDesk().value(59, 0), 59);
        due("no node 60", () -> fullDesk().value(60, 0), ARGUMENT);
    }

    private static void valueStores() {
        for (int store : NO_STORES) {
            refused(BoundsTest::loopDesk, "store " + store, x -> x.value(0, store), ARGUMENT);
            refused(BoundsTest::loopDesk, "a number, too", x -> x.value(1, store), ARGUMENT);
        }
        for (int store : END_STORES) {
            due("store " + store, () -> loopDesk().value(12, store), store / 256);
        }
    }

    private static void noSuchCondition() {
        for (int node : NO_NODES) {
            refused(BoundsTest::loopDesk, "no node", x -> x.holds(node, 0), ARGUMENT);
        }
        for (int node : new int[] {0, 1, 13, NOTHING, UP, LOOP, ENDLESS}) {
            refused(BoundsTest::loopDesk, "another sort", x -> x.holds(node, 0), ARGUMENT);
        }
        due("the least kind", () -> loopDesk().holds(BELOW_ONE, 16), true);
        PromiseDesk x = loopDesk();
        int either = x.make(10, NEVER, BELOW_ONE, 0);
        due("the greatest kind", () -> x.holds(either, 16), true);
    }

    private static void holdsStores() {
        for (int store : NO_STORES) {
            refused(BoundsTest::loopDesk, "store " + store,
                    x -> x.holds(BELOW_ONE, store), ARGUMENT);
            refused(BoundsTest::loopDesk, "never, too", x -> x.holds(NEVER, store), ARGUMENT);
        }
        for (int store : END_STORES) {
            due("store " + store, () -> loopDesk().holds(BELOW_ONE, store), store == 0);
        }
    }

    private static void noSuchCommand() {
        for (int node : NO_NODES) {
            refused(BoundsTest::loopDesk, "no node", x -> x.run(node, 0, 9), ARGUMENT);
        }
        for (int node : new int[] {0, 1, 13, ALWAYS, NEVER, BELOW_ONE}) {
            refused(BoundsTest::loopDesk, "another sort", x -> x.run(node, 0, 9), ARGUMENT);
        }
        due("the least kind", () -> loopDesk().run(NOTHING, 9, 9), 9);
        due("the greatest kind", () -> loopDesk().run(LOOP, 9, 9), 9);
    }

    private static void runStores() {
        for (int store : NO_STORES) {
            refused(BoundsTest::loopDesk, "store " + store, x -> x.run(UP, store, 9), ARGUMENT);
            refused(BoundsTest::loopDesk, "nothing, too",
                    x -> x.run(NOTHING, store, 9), ARGUMENT);
        }
        for (int store : END_STORES) {
            due("store " + store, () -> loopDesk().run(NOTHING, store, 9), store);
        }
    }

    private static void fuelBounds() {
        for (int fuel : new int[] {0, -1, 501, LEAST, MOST}) {
            refused(BoundsTest::loopDesk, "fuel " + fuel, x -> x.run(UP, 0, fuel), ARGUMENT);
        }
        due("fuel 1", () -> loopDesk().run(UP, 0, 1), 1);
        due("fuel 500", () -> loopDesk().run(UP, 0, 500), 1);
    }

    private static final int THREES = 14;
    private static final int TWOS = 16;

    /**
     * Two loops that count v0 + 16 * v1 down to 0. A round takes 3 or 2 steps, as its last
     * command is in an if or not, but 4 where v0 is 0.
     */
    private static PromiseDesk countingDesk() {
        PromiseDesk x = new PromiseDesk();
        x.make(1, 0, 0, 0);
        x.make(1, 1, 0, 0);
        x.make(0, 1, 0, 0);
        int zero = x.make(0, 0, 0, 0);
        int down0 = x.make(12, 0, x.make(3, 0, 2, 0), 0);
        int down1 = x.make(12, 1, x.make(3, 1, 2, 0), 0);
        int isZero = x.make(6, 0, zero, 0);
        int some = x.make(5, zero, x.make(2, 0, 1, 0), 0);
        int both = x.make(13, down1, down0, 0);
        int round = x.make(14, isZero, both, x.make(14, some, down0, down1));
        x.make(15, some, some, round);
        x.make(15, some, some, x.make(14, isZero, both, down0));
        return x;
    }

    private static void fuelEnds() {
        int just500 = store(3, 10, 0);
        int just501 = store(12, 14, 0);
        int just499 = store(11, 14, 0);
        due("500 steps by 500", () -> countingDesk().run(THREES, just500, 500), 0);
        refused(BoundsTest::countingDesk, "500 steps by 499",
                x -> x.run(THREES, just500, 499), STATE);
        refused(BoundsTest::countingDesk, "501 steps by 500",
                x -> x.run(TWOS, just501, 500), STATE);
        due("499 steps by 499", () -> countingDesk().run(TWOS, just499, 499), 0);
        due("499 steps by 500", () -> countingDesk().run(TWOS, just499, 500), 0);
        for (int fuel : new int[] {1, 2, 499, 500}) {
            refused(BoundsTest::loopDesk, "endless by " + fuel,
                    x -> x.run(ENDLESS, 7, fuel), STATE);
        }
        PromiseDesk x = loopDesk();
        due("endless", () -> x.run(ENDLESS, 7, 500), STATE);
        due("the next run has its own fuel", () -> x.run(UP, 7, 1), 8);
    }

    // ---- Promises 6 to 11

    private static void promiseReplaced() {
        PromiseDesk x = loopDesk();
        due("the most duties", () -> x.promise(ALWAYS, SEVEN_LOOPS, BELOW_ONE), 15);
        due("the fewest", () -> x.promise(ALWAYS, NOTHING, NEVER), 1);
        due("the new first duty", () -> x.decide(0), 0);
        due("no old duty", () -> x.decide(1), STATE);
        due("no old last duty", () -> x.kept(14, 0), STATE);
        due("no old pairs", x::part, 0.0);
        due("the most again", () -> x.promise(ALWAYS, SEVEN_LOOPS, ALWAYS), 15);
        due("no old answers", x::part, 1.0);
    }

    private static void promiseNodes() {
        for (int node : NO_NODES) {
            refusedPromise(node, LOOP, NEVER);
            refusedPromise(NEVER, node, NEVER);
            refusedPromise(NEVER, LOOP, node);
        }
        refusedPromise(0, LOOP, NEVER);
        refusedPromise(UP, LOOP, NEVER);
        refusedPromise(NEVER, 0, NEVER);
        refusedPromise(NEVER, ALWAYS, NEVER);
        refusedPromise(NEVER, LOOP, 0);
        refusedPromise(NEVER, LOOP, UP);
        refusedPromise(-1, -1, -1);
    }

    /** With no promise before, and with one that stays. */
    private static void refusedPromise(int p, int c, int q) {
        String what = "promise(" + p + ", " + c + ", " + q + ")";
        refused(BoundsTest::loopDesk, what, x -> x.promise(p, c, q), ARGUMENT);
        refused(BoundsTest::promisedDesk, what, x -> x.promise(p, c, q), ARGUMENT);
    }

    private static void tooManyDuties() {
        refused(BoundsTest::loopDesk, "17 duties, no promise before",
                x -> x.promise(NEVER, EIGHT_LOOPS, NEVER), STATE);
        due("15 duties", () -> loopDesk().promise(NEVER, SEVEN_LOOPS, NEVER), 15);
    }

    private static void promiseStays() {
        refused(BoundsTest::promisedDesk, "17 duties, a small promise before",
                x -> x.promise(NEVER, EIGHT_LOOPS, NEVER), STATE);
        PromiseDesk x = loopDesk();
        x.promise(ALWAYS, SEVEN_LOOPS, BELOW_ONE);
        due("17 duties, a great promise before",
                () -> x.promise(NEVER, EIGHT_LOOPS, NEVER), STATE);
        due("its duties", () -> x.count(1), 15);
        due("its last duty", () -> x.broken(14, 0, 4095), 3840);
        due("its part", x::part, (15 * 4096 - 3840) / (15 * 4096.0));
    }

    private static void keptFromZero() {
        PromiseDesk x = promisedDesk();
        due("the first", () -> x.kept(0, 1), true);
        due("the last", () -> x.kept(2, 1), false);
        x.promise(ALWAYS, NOTHING, BELOW_ONE);
        due("the only one", () -> x.kept(0, 1), false);
    }

    private static void keptStores() {
        for (int store : NO_STORES) {
            refused(BoundsTest::promisedDesk, "store " + store, x -> x.kept(2, store), ARGUMENT);
        }
        for (int store : END_STORES) {
            due("store " + store, () -> promisedDesk().kept(2, store), store == 0);
        }
    }

    // The promised desk has three duties, no promise more than 15.
    private static final int[] NO_DUTIES = {-1, 3, 4, 15, 16, 17, LEAST, MOST};

    private static void keptNoDuty() {
        for (int i : NO_DUTIES) {
            refused(BoundsTest::promisedDesk, "duty " + i, x -> x.kept(i, 0), STATE);
        }
        refused(BoundsTest::loopDesk, "duty 0, no promise", x -> x.kept(0, 0), STATE);
    }

    /** A promise whose one duty is broken just where v0 + v1 + v2 is the given sum. */
    private static PromiseDesk brokenAt(int sum) {
        PromiseDesk x = new PromiseDesk();
        for (int variable = 0; variable < 3; variable++) {
            x.make(1, variable, 0, 0);
        }
        int all = x.make(2, x.make(2, 0, 1, 0), 2, 0);
        int there = x.make(6, all, x.make(0, sum, 0, 0), 0);
        int never = x.make(5, 0, 0, 0);
        x.promise(there, x.make(11, 0, 0, 0), never);
        return x;
    }

    private static void leastStores() {
        due("the first store alone", () -> brokenAt(0).decide(0), 0);
        due("the last store alone", () -> brokenAt(45).decide(0), 4095);
        due("the least of three", () -> brokenAt(44).decide(0), store(15, 15, 14));
        due("the least of three low ones", () -> brokenAt(1).decide(0), 1);
        PromiseDesk x = loopDesk();
        x.promise(ALWAYS, NOTHING, NEVER);
        due("the least of all", () -> x.decide(0), 0);
    }

    private static void validDuty() {
        due("no store has that sum", () -> brokenAt(46).decide(0), PromiseDesk.VALID);
        due("nor that one", () -> brokenAt(-1).decide(0), PromiseDesk.VALID);
        PromiseDesk x = loopDesk();
        x.promise(NEVER, NOTHING, NEVER);
        due("p never holds", () -> x.decide(0), PromiseDesk.VALID);
        x.promise(ALWAYS, SEVEN_LOOPS, ALWAYS);
        for (int i = 0; i < 15; i++) {
            int duty = i;
            due("duty " + i + " of 15", () -> x.decide(duty), PromiseDesk.VALID);
        }
    }

    private static void decideNoDuty() {
        for (int i : NO_DUTIES) {
            refused(BoundsTest::promisedDesk, "duty " + i, x -> x.decide(i), STATE);
        }
        refused(BoundsTest::loopDesk, "duty 0, no promise", x -> x.decide(0), STATE);
        due("the last duty", () -> promisedDesk().decide(2), 1);
    }

    private static void brokenEnds() {
        PromiseDesk x = brokenAt(44);
        int first = store(15, 15, 14);
        int last = store(14, 15, 15);
        due("from the first to the last", () -> x.broken(0, first, last), 3);
        due("from behind the first", () -> x.broken(0, first + 1, last), 2);
        due("to before the last", () -> x.broken(0, first, last - 1), 2);
        due("the first alone", () -> x.broken(0, first, first), 1);
        due("before the first", () -> x.broken(0, 0, first - 1), 0);
        due("behind the last", () -> x.broken(0, last + 1, 4095), 0);
        due("all", () -> x.broken(0, 0, 4095), 3);
        due("store 0 alone", () -> brokenAt(0).broken(0, 0, 0), 1);
        due("without store 0", () -> brokenAt(0).broken(0, 1, 4095), 0);
        due("store 4095 alone", () -> brokenAt(45).broken(0, 4095, 4095), 1);
        due("without store 4095", () -> brokenAt(45).broken(0, 0, 4094), 0);
        PromiseDesk y = loopDesk();
        y.promise(ALWAYS, NOTHING, NEVER);
        due("broken in all", () -> y.broken(0, 0, 4095), 4096);
        y.promise(ALWAYS, NOTHING, ALWAYS);
        due("broken in none", () -> y.broken(0, 0, 4095), 0);
    }

    private static void brokenRange() {
        int[][] ranges = {
            {-1, 0}, {-1, -1}, {0, 4096}, {4096, 4096}, {1, 0}, {4095, 4094}, {4095, 0}, {0, -1},
            {-1, 4096}, {LEAST, 0}, {0, MOST}, {LEAST, MOST}, {MOST, LEAST}, {LEAST, LEAST},
            {MOST, MOST}, {0, LEAST}, {MOST, 0}};
        for (int[] range : ranges) {
            refused(BoundsTest::promisedDesk, "from " + range[0] + " to " + range[1],
                    x -> x.broken(2, range[0], range[1]), ARGUMENT);
        }
        due("from 0 to 0", () -> promisedDesk().broken(2, 0, 0), 0);
        due("from 0 to 4095", () -> promisedDesk().broken(2, 0, 4095), 3840);
        due("from 4095 to 4095", () -> promisedDesk().broken(2, 4095, 4095), 1);
    }

    private static void brokenNoDuty() {
        for (int i : NO_DUTIES) {
            refused(BoundsTest::promisedDesk, "duty " + i, x -> x.broken(i, 0, 4095), STATE);
        }
        refused(BoundsTest::loopDesk, "duty 0, no promise", x -> x.broken(0, 0, 0), STATE);
    }

    private static void partEnds() {
        due("all but the first store", () -> brokenAt(0).part(), 4095.0 / 4096.0);
        due("all but the last store", () -> brokenAt(45).part(), 4095.0 / 4096.0);
        due("all", () -> brokenAt(46).part(), 1.0);
        PromiseDesk x = loopDesk();
        x.promise(ALWAYS, NOTHING, NEVER);
        due("none", x::part, 0.0);
        x.promise(ALWAYS, SEVEN_LOOPS, NEVER);
        due("all but one of 15 duties", x::part, 14.0 / 15.0);
        x.promise(ALWAYS, SEVEN_LOOPS, ALWAYS);
        due("all of 15 duties", x::part, 1.0);
        x.promise(ALWAYS, LOOP, BELOW_ONE);
        due("no short decimal", x::part, 8448.0 / 12288.0);
    }

    private static void partOfNoPromise() {
        refused(PromiseDesk::new, "a new desk", x -> x.part(), STATE);
        refused(BoundsTest::loopDesk, "a desk with nodes", x -> x.part(), STATE);
        PromiseDesk x = loopDesk();
        due("a promise refused", () -> x.promise(ALWAYS, EIGHT_LOOPS, ALWAYS), STATE);
        due("there is none yet", x::part, STATE);
    }

    private static void countNodes() {
        PromiseDesk x = new PromiseDesk();
        for (int i = 0; i <= 60; i++) {
            due("nodes", () -> x.count(0), i);
            answerOf(() -> x.make(11, 0, 0, 0));
        }
        due("nodes of a full desk", () -> x.count(0), 60);
    }

    private static void countDuties() {
        due("a new desk", () -> new PromiseDesk().count(1), 0);
        due("a desk without a promise", () -> loopDesk().count(1), 0);
        PromiseDesk x = loopDesk();
        x.promise(ALWAYS, NOTHING, NEVER);
        due("the fewest", () -> x.count(1), 1);
        x.promise(ALWAYS, SEVEN_LOOPS, NEVER);
        due("the most", () -> x.count(1), 15);
    }

    private static void countValid() {
        due("no promise", () -> loopDesk().count(2), 0);
        due("broken in the first store alone", () -> brokenAt(0).count(2), 0);
        due("broken in the last store alone", () -> brokenAt(45).count(2), 0);
        due("broken in no store", () -> brokenAt(46).count(2), 1);
        PromiseDesk x = loopDesk();
        x.promise(ALWAYS, SEVEN_LOOPS, ALWAYS);
        due("all of 15", () -> x.count(2), 15);
        x.promise(ALWAYS, SEVEN_LOOPS, NEVER);
        due("all but the last of 15", () -> x.count(2), 14);
    }

    private static void countOther() {
        for (int what : new int[] {-1, 3, 4, LEAST, MOST}) {
            refused(PromiseDesk::new, "count(" + what + ")", x -> x.count(what), ARGUMENT);
            refused(BoundsTest::promisedDesk, "count(" + what + ")",
                    x -> x.count(what), ARGUMENT);
        }
    }
}
