import java.util.ArrayList;
import java.util.List;
import java.util.Random;
import java.util.function.IntPredicate;

/**
 * Random runs of calls, each answer compared with that of a slow desk that follows the
 * document's words: what must hold is a predicate made from predicates.
 */
public final class ReferenceTest {

    private static final int RUNS = 250;
    private static final int CALLS = 512;

    /** What a slow desk has of a node: its words by the document's table, and its height. */
    private record Node(int kind, int a, int b, int c, int height) {
        boolean isExpression() {
            return kind <= 4;
        }

        boolean isCondition() {
            return kind >= 5 && kind <= 10;
        }

        boolean isCommand() {
            return kind >= 11;
        }
    }

    private static final class SlowDesk {
        final List<Node> nodes = new ArrayList<>();
        List<IntPredicate> duties = List.of();
        private int steps;

        private boolean exists(int n) {
            return n >= 0 && n < nodes.size();
        }

        boolean expression(int n) {
            return exists(n) && nodes.get(n).isExpression();
        }

        boolean condition(int n) {
            return exists(n) && nodes.get(n).isCondition();
        }

        boolean command(int n) {
            return exists(n) && nodes.get(n).isCommand();
        }

        private int height(int n) {
            return nodes.get(n).height();
        }

        private static boolean within(int x, int least, int most) {
            return least <= x && x <= most;
        }

        int make(int kind, int a, int b, int c) {
            boolean fine = switch (kind) {
                case 0 -> within(a, -100, 100);
                case 1 -> within(a, 0, 2);
                case 2, 3, 5, 6 -> expression(a) && expression(b);
                case 4 -> within(a, -16, 16) && expression(b);
                case 7 -> within(a, 1, 16) && expression(b);
                case 8 -> condition(a);
                case 9, 10 -> condition(a) && condition(b);
                case 11 -> true;
                case 12 -> within(a, 0, 2) && expression(b);
                case 13 -> command(a) && command(b);
                case 14 -> condition(a) && command(b) && command(c);
                case 15 -> condition(a) && condition(b) && command(c);
                default -> false;
            };
            if (!fine) {
                throw new IllegalArgumentException();
            }
            int below = switch (kind) {
                case 2, 3, 5, 6, 9, 10, 13 -> Math.max(height(a), height(b));
                case 4, 7, 12 -> height(b);
                case 8 -> height(a);
                case 14, 15 -> Math.max(height(a), Math.max(height(b), height(c)));
                default -> 0;
            };
            if (nodes.size() == 60 || below + 1 > 6) {
                throw new IllegalStateException();
            }
            nodes.add(new Node(kind, a, b, c, below + 1));
            return nodes.size() - 1;
        }

        private static int[] variables(int store) {
            return new int[] {store % 16, store / 16 % 16, store / 256};
        }

        private static int changed(int store, int variable, int value) {
            int[] v = variables(store);
            v[variable] = Math.floorMod(value, 16);
            return v[0] + 16 * v[1] + 256 * v[2];
        }

        int eval(int n, int s) {
            Node x = nodes.get(n);
            return switch (x.kind()) {
                case 0 -> x.a();
                case 1 -> variables(s)[x.a()];
                case 2 -> eval(x.a(), s) + eval(x.b(), s);
                case 3 -> eval(x.a(), s) - eval(x.b(), s);
                default -> x.a() * eval(x.b(), s);
            };
        }

        boolean isTrue(int n, int s) {
            Node x = nodes.get(n);
            return switch (x.kind()) {
                case 5 -> eval(x.a(), s) < eval(x.b(), s);
                case 6 -> eval(x.a(), s) == eval(x.b(), s);
                case 7 -> Math.floorMod(eval(x.b(), s), x.a()) == 0;
                case 8 -> !isTrue(x.a(), s);
                case 9 -> isTrue(x.a(), s) & isTrue(x.b(), s);
                default -> isTrue(x.a(), s) | isTrue(x.b(), s);
            };
        }

        int value(int n, int s) {
            if (!expression(n) || !within(s, 0, 4095)) {
                throw new IllegalArgumentException();
            }
            return eval(n, s);
        }

        boolean holds(int n, int s) {
            if (!condition(n) || !within(s, 0, 4095)) {
                throw new IllegalArgumentException();
            }
            return isTrue(n, s);
        }

        int run(int n, int s, int fuel) {
            if (!command(n) || !within(s, 0, 4095) || !within(fuel, 1, 500)) {
                throw new IllegalArgumentException();
            }
            steps = fuel;
            return walk(n, s);
        }

        private int walk(int n, int s) {
            if (--steps < 0) {
                throw new IllegalStateException();
            }
            Node x = nodes.get(n);
            switch (x.kind()) {
                case 11:
                    return s;
                case 12:
                    return changed(s, x.a(), eval(x.b(), s));
                case 13:
                    return walk(x.b(), walk(x.a(), s));
                case 14:
                    return isTrue(x.a(), s) ? walk(x.b(), s) : walk(x.c(), s);
                default:
                    int at = s;
                    while (isTrue(x.a(), at)) {
                        at = walk(x.c(), at);
                    }
                    return at;
            }
        }

        private IntPredicate before(int n, IntPredicate q) {
            Node x = nodes.get(n);
            switch (x.kind()) {
                case 11:
                    return q;
                case 12:
                    return s -> q.test(changed(s, x.a(), eval(x.b(), s)));
                case 13:
                    return before(x.a(), before(x.b(), q));
                case 14:
                    IntPredicate yes = before(x.b(), q);
                    IntPredicate no = before(x.c(), q);
                    return s -> isTrue(x.a(), s) ? yes.test(s) : no.test(s);
                default:
                    return s -> isTrue(x.b(), s);
            }
        }

        private void gatherDuties(int n, IntPredicate q, List<IntPredicate> into) {
            Node x = nodes.get(n);
            switch (x.kind()) {
                case 13:
                    gatherDuties(x.a(), before(x.b(), q), into);
                    gatherDuties(x.b(), q, into);
                    break;
                case 14:
                    gatherDuties(x.b(), q, into);
                    gatherDuties(x.c(), q, into);
                    break;
                case 15:
                    IntPredicate invariant = s -> isTrue(x.b(), s);
                    IntPredicate body = before(x.c(), invariant);
                    into.add(s -> !(invariant.test(s) && isTrue(x.a(), s)) || body.test(s));
                    into.add(s -> !(invariant.test(s) && !isTrue(x.a(), s)) || q.test(s));
                    gatherDuties(x.c(), invariant, into);
                    break;
                default:
                    break;
            }
        }

        int promise(int p, int c, int q) {
            if (!condition(p) || !command(c) || !condition(q)) {
                throw new IllegalArgumentException();
            }
            List<IntPredicate> made = new ArrayList<>();
            IntPredicate wanted = s -> isTrue(q, s);
            IntPredicate first = before(c, wanted);
            made.add(s -> !isTrue(p, s) || first.test(s));
            gatherDuties(c, wanted, made);
            if (made.size() > 16) {
                throw new IllegalStateException();
            }
            duties = made;
            return made.size();
        }

        private IntPredicate duty(int i) {
            if (i < 0 || i >= duties.size()) {
                throw new IllegalStateException();
            }
            return duties.get(i);
        }

        boolean kept(int i, int s) {
            if (!within(s, 0, 4095)) {
                throw new IllegalArgumentException();
            }
            return duty(i).test(s);
        }

        int decide(int i) {
            IntPredicate duty = duty(i);
            for (int s = 0; s < 4096; s++) {
                if (!duty.test(s)) {
                    return s;
                }
            }
            return -1;
        }

        int broken(int i, int from, int to) {
            if (!(0 <= from && from <= to && to <= 4095)) {
                throw new IllegalArgumentException();
            }
            IntPredicate duty = duty(i);
            int many = 0;
            for (int s = from; s <= to; s++) {
                many += duty.test(s) ? 0 : 1;
            }
            return many;
        }

        double part() {
            if (duties.isEmpty()) {
                throw new IllegalStateException();
            }
            int keptPairs = 0;
            for (IntPredicate duty : duties) {
                for (int s = 0; s < 4096; s++) {
                    keptPairs += duty.test(s) ? 1 : 0;
                }
            }
            return keptPairs / (4096.0 * duties.size());
        }

        int count(int what) {
            switch (what) {
                case 0:
                    return nodes.size();
                case 1:
                    return duties.size();
                case 2:
                    int valid = 0;
                    for (int i = 0; i < duties.size(); i++) {
                        valid += decide(i) == -1 ? 1 : 0;
                    }
                    return valid;
                default:
                    throw new IllegalArgumentException();
            }
        }
    }

    private interface Call {
        Object answer();
    }

    private static final class Driver {
        private final Random random;
        private final PromiseDesk desk = new PromiseDesk();
        private final SlowDesk slow = new SlowDesk();
        private final StringBuilder told = new StringBuilder();
        private int mostDuties = 0;

        Driver(long seed) {
            random = new Random(seed);
        }

        private int between(int least, int most) {
            return least + random.nextInt(most - least + 1);
        }

        private boolean seldom() {
            return random.nextInt(25) == 0;
        }

        /** A number least .. most, seldom one near or far outside. */
        private int number(int least, int most) {
            if (!seldom()) {
                return between(least, most);
            }
            int[] odd = {least - 1, least, most, most + 1, Integer.MIN_VALUE, Integer.MAX_VALUE};
            return odd[random.nextInt(odd.length)];
        }

        /** A node of a sort (0 expression, 1 condition, 2 command), if there is one. */
        private int node(int sort) {
            if (seldom()) {
                return number(-1, slow.nodes.size());
            }
            int found = -1;
            int seen = 0;
            for (int n = 0; n < slow.nodes.size(); n++) {
                boolean fits = sort == 0 ? slow.expression(n)
                        : sort == 1 ? slow.condition(n) : slow.command(n);
                if (fits) {
                    seen++;
                    // Low ones are wanted more often, so that heights stay below the limit.
                    int height = slow.nodes.get(n).height();
                    boolean high = sort == 2 ? height > 5 : height > 2;
                    if (random.nextInt(high ? 6 * seen : seen) == 0) {
                        found = n;
                    }
                }
            }
            return found;
        }

        private Object answerOf(Call call) {
            try {
                return call.answer();
            } catch (RuntimeException e) {
                return e.getClass().getName();
            }
        }

        private boolean same(String call, Call fast, Call reference) {
            Object want = answerOf(reference);
            Object got = answerOf(fast);
            told.append(call).append(" -> ").append(want).append('\n');
            if (got.equals(want)) {
                return true;
            }
            System.out.println(told);
            System.out.println("the last call answered " + got);
            return false;
        }

        /** Any kind, but commands above commands more often, as they bring the duties. */
        private int kind() {
            return slow.nodes.size() > 12 && random.nextBoolean() ? between(13, 15) : number(0, 15);
        }

        private boolean sameMake() {
            int kind = kind();
            int[] w = {number(-5, 70), number(-5, 70), number(-5, 70)};
            switch (kind) {
                case 0: w[0] = number(-100, 100); break;
                case 1: w[0] = number(0, 2); break;
                case 2: case 3: case 5: case 6: w[0] = node(0); w[1] = node(0); break;
                case 4: w[0] = number(-16, 16); w[1] = node(0); break;
                case 7: w[0] = number(1, 16); w[1] = node(0); break;
                case 8: w[0] = node(1); break;
                case 9: case 10: w[0] = node(1); w[1] = node(1); break;
                case 12: w[0] = number(0, 2); w[1] = node(0); break;
                case 13: w[0] = node(2); w[1] = node(2); break;
                case 14: w[0] = node(1); w[1] = node(2); w[2] = node(2); break;
                case 15: w[0] = node(1); w[1] = node(1); w[2] = node(2); break;
                default: break;
            }
            return same("make(" + kind + ", " + w[0] + ", " + w[1] + ", " + w[2] + ")",
                    () -> desk.make(kind, w[0], w[1], w[2]),
                    () -> slow.make(kind, w[0], w[1], w[2]));
        }

        /** Any command, seldom one that is none. */
        private int promised() {
            if (seldom()) {
                return number(-1, slow.nodes.size());
            }
            int best = node(2);
            for (int tries = 0; tries < 3; tries++) {
                int other = between(0, Math.max(0, slow.nodes.size() - 1));
                if (slow.command(other) && slow.nodes.get(other).kind() >= 13) {
                    best = other;
                }
            }
            return best;
        }

        private boolean samePromise() {
            int p = node(1);
            int c = promised();
            int q = node(1);
            boolean same = same("promise(" + p + ", " + c + ", " + q + ")",
                    () -> desk.promise(p, c, q), () -> slow.promise(p, c, q));
            mostDuties = Math.max(mostDuties, slow.duties.size());
            return same;
        }

        private boolean sameOther() {
            int s = number(0, 4095);
            int i = number(0, Math.max(0, slow.duties.size() - 1));
            switch (random.nextInt(10)) {
                case 0: {
                    int n = node(0);
                    return same("value(" + n + ", " + s + ")",
                            () -> desk.value(n, s), () -> slow.value(n, s));
                }
                case 1: {
                    int n = node(1);
                    return same("holds(" + n + ", " + s + ")",
                            () -> desk.holds(n, s), () -> slow.holds(n, s));
                }
                case 2: {
                    int n = node(2);
                    int fuel = random.nextBoolean() ? number(1, 20) : number(1, 500);
                    return same("run(" + n + ", " + s + ", " + fuel + ")",
                            () -> desk.run(n, s, fuel), () -> slow.run(n, s, fuel));
                }
                case 3: case 4:
                    return samePromise();
                case 5:
                    return same("kept(" + i + ", " + s + ")",
                            () -> desk.kept(i, s), () -> slow.kept(i, s));
                case 6:
                    return same("decide(" + i + ")", () -> desk.decide(i), () -> slow.decide(i));
                case 7: {
                    int to = number(Math.min(4095, Math.max(0, s)), 4095);
                    return same("broken(" + i + ", " + s + ", " + to + ")",
                            () -> desk.broken(i, s, to), () -> slow.broken(i, s, to));
                }
                case 8:
                    return same("part()", desk::part, slow::part);
                default: {
                    int what = number(0, 2);
                    return same("count(" + what + ")",
                            () -> desk.count(what), () -> slow.count(what));
                }
            }
        }

        boolean sameForAllCalls() {
            for (int call = 0; call < CALLS; call++) {
                boolean making = random.nextInt(slow.nodes.size() < 60 ? 2 : 12) == 0;
                if (!(making ? sameMake() : sameOther())) {
                    return false;
                }
            }
            return true;
        }
    }

    public static void main(String[] args) {
        int wrong = 0;
        int mostDuties = 0;
        for (int seed = 0; seed < RUNS; seed++) {
            Driver driver = new Driver(seed);
            if (!driver.sameForAllCalls()) {
                System.out.println("in the run of seed " + seed);
                wrong++;
            }
            mostDuties = Math.max(mostDuties, driver.mostDuties);
        }
        // Runs that never reach many duties would test little.
        if (mostDuties < 15) {
            System.out.println("the runs reach " + mostDuties + " duties alone");
            wrong++;
        }
        if (wrong != 0) {
            System.exit(1);
        }
        System.out.println(RUNS + " runs answer as the document's words do");
    }
}
