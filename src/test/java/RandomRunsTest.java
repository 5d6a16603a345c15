import java.util.function.IntSupplier;

/** Runs of calls drawn from fixed seeds, on the class and on PlainYard: every answer and exception is the same. */
public final class RandomRunsTest {
    private static final int RUNS = 3000;
    private static final int CALLS = 512;
    private static final int METHODS = 22;
    // How often each of the methods is drawn, by the document's order; what only asks is drawn less often.
    private static final int[] SHARES = {60, 25, 35, 25, 2, 4, 8, 4, 2, 25, 10, 6, 3, 20, 25, 15, 15, 5, 3, 6, 2, 6};
    private static final int[] EDGES = {
        Integer.MIN_VALUE, -101, -2, -1, 0, 1, 2, 3, 4, 5, 6, 7, 8, 19, 20, 21, 25, 26, 29, 30, 31, 32, 100, 101, 1000,
        1001, 10000, Integer.MAX_VALUE,
    };

    private final CraneYard yard = new CraneYard();
    private final PlainYard plain = new PlainYard();
    private final int letters;
    private final int weights;
    private final int longestPass;
    private final boolean fills;
    private long seed;

    private RandomRunsTest(int run) {
        seed = run * 0x9E3779B97F4A7C15L + 1;
        letters = draw(3) == 0 ? 26 : 2 + draw(3);
        weights = draw(3) == 0 ? 100 : 1 + draw(4);
        longestPass = draw(4) == 0 ? 100 : 3;
        fills = draw(2) == 0;
    }

    public static void main(String[] args) {
        int[] answered = new int[METHODS];
        int[] refused = new int[METHODS];
        int wrong = 0;
        for (int run = 0; run < RUNS && wrong < 10; run++) {
            RandomRunsTest test = new RandomRunsTest(run);
            for (int call = 0; call < CALLS; call++) {
                int method = test.drawMethod(call);
                int[] a = test.drawArguments(method);
                String got = answer(() -> call(test.yard, method, a));
                String due = answer(() -> call(test.plain, method, a));
                if (!got.equals(due)) {
                    System.out.println("run " + run + ", call " + call + ": method " + method + " of "
                            + java.util.Arrays.toString(a) + " answered " + got + ", due is " + due);
                    wrong++;
                    break;
                }
                (got.startsWith("class") ? refused : answered)[method]++;
            }
        }
        System.out.println("answered by method: " + java.util.Arrays.toString(answered));
        System.out.println("refused by method:  " + java.util.Arrays.toString(refused));
        if (wrong > 0) {
            System.exit(1);
        }
    }

    private int draw(int bound) {
        seed = seed * 6364136223846793005L + 1442695040888963407L;
        return (int) ((seed >>> 33) % bound);
    }

    private int drawMethod(int call) {
        if (fills && call < 25) {
            return 0;
        }
        int sum = 0;
        for (int share : SHARES) {
            sum += share;
        }
        int left = draw(sum);
        int method = 0;
        while (left >= SHARES[method]) {
            left -= SHARES[method];
            method++;
        }
        return method;
    }

    private int[] drawArguments(int method) {
        int[] a = likelyArguments(method);
        if (draw(12) == 0 && a.length > 0) {
            a[draw(a.length)] = EDGES[draw(EDGES.length)];
        }
        return a;
    }

    private int[] likelyArguments(int method) {
        int today = plain.today();
        switch (method) {
            case 0: return new int[] {1 + draw(weights), draw(letters), draw(6)};
            case 1: case 2: case 5: return new int[] {draw(6)};
            case 3: case 7: return new int[] {draw(30)};
            case 6: return new int[] {draw(6), draw(5)};
            case 9: return new int[] {drawSet()};
            case 10: return drawWord();
            case 11: return new int[] {draw(8)};
            case 13: return new int[] {draw(30), today + draw(draw(8) == 0 ? 102 : 6)};
            case 14: return new int[] {draw(20), draw(4), 1 + draw(draw(2) == 0 ? 3 : 1000)};
            case 15: case 17: return new int[] {draw(20)};
            case 19: return new int[] {1 + draw(longestPass)};
            default: return new int[0];
        }
    }

    /** Mostly crates that are in stacks, so that the set is none only now and then. */
    private int drawSet() {
        int set = 0;
        int size = draw(30) == 0 ? 5 : 1 + draw(4);
        for (int i = 0; i < size; i++) {
            int height = 0;
            int stack = draw(6);
            height = plain.height(stack);
            int crate = height == 0 ? draw(30) : plain.at(stack, draw(height));
            set |= height == 0 && draw(4) > 0 ? 0 : 1 << crate;
        }
        return set;
    }

    private int[] drawWord() {
        int length = 2 + draw(3);
        int[] word = new int[4];
        for (int i = 0; i < 4; i++) {
            word[i] = i < length ? draw(letters) : -1;
        }
        return word;
    }

    private static String answer(IntSupplier call) {
        try {
            return Integer.toString(call.getAsInt());
        } catch (RuntimeException thrown) {
            return thrown.getClass().toString();
        }
    }

    private static int call(CraneYard x, int method, int[] a) {
        switch (method) {
            case 0: return x.arrive(a[0], a[1], a[2]);
            case 1: return x.lift(a[0]);
            case 2: return x.drop(a[0]);
            case 3: return x.dig(a[0]);
            case 4: return x.crane();
            case 5: return x.height(a[0]);
            case 6: return x.at(a[0], a[1]);
            case 7: return x.stackOf(a[0]);
            case 8: return x.lifts();
            case 9: return x.fewestLifts(a[0]);
            case 10: return x.tell(a[0], a[1], a[2], a[3]);
            case 11: return x.hasPaid(a[0]) ? 1 : 0;
            case 12: return x.bonus();
            case 13: return x.offer(a[0], a[1]);
            case 14: x.bid(a[0], a[1], a[2]); return 0;
            case 15: return x.give(a[0]);
            case 16: return x.load();
            case 17: return x.state(a[0]);
            case 18: return x.storm();
            case 19: return x.pass(a[0]);
            case 20: return x.today();
            default: return x.balance();
        }
    }

    private static int call(PlainYard x, int method, int[] a) {
        switch (method) {
            case 0: return x.arrive(a[0], a[1], a[2]);
            case 1: return x.lift(a[0]);
            case 2: return x.drop(a[0]);
            case 3: return x.dig(a[0]);
            case 4: return x.crane();
            case 5: return x.height(a[0]);
            case 6: return x.at(a[0], a[1]);
            case 7: return x.stackOf(a[0]);
            case 8: return x.lifts();
            case 9: return x.fewestLifts(a[0]);
            case 10: return x.tell(a[0], a[1], a[2], a[3]);
            case 11: return x.hasPaid(a[0]);
            case 12: return x.bonus();
            case 13: return x.offer(a[0], a[1]);
            case 14: return x.bid(a[0], a[1], a[2]);
            case 15: return x.give(a[0]);
            case 16: return x.load();
            case 17: return x.state(a[0]);
            case 18: return x.storm();
            case 19: return x.pass(a[0]);
            case 20: return x.today();
            default: return x.balance();
        }
    }
}
