import java.lang.reflect.InvocationTargetException;
import java.lang.reflect.Method;
import java.util.Arrays;
import java.util.HashMap;
import java.util.Map;

/** Runs of calls drawn from fixed seeds, on the class and on PlainYard: every answer and exception is the same. */
public final class RandomRunsTest {
    private static final int RUNS = 3000;
    private static final int CALLS = 512;
    private static final int WRONG_TOLD = 10;

    /** The calls; of every thousand, some such share is drawn of each. */
    private enum Call {
        arrive(110), lift(50), drop(110), dig(100), crane(10), height(10), at(25), stackOf(15), lifts(10),
        fewestLifts(120), tell(30), hasPaid(15), bonus(10), offer(60), bid(100), give(60), load(50), state(15),
        storm(20), pass(25), today(5), balance(50);

        private final int share;

        Call(int share) {
            this.share = share;
        }
    }

    private static final int[] EDGES = {
        Integer.MIN_VALUE, -101, -2, -1, 0, 1, 2, 3, 4, 5, 6, 7, 8, 19, 20, 21, 25, 26, 29, 30, 31, 32, 100, 101, 1000,
        1001, 10000, 10001, Integer.MAX_VALUE,
    };

    private static final Map<Call, Method> OF_CLASS = methodsOf(CraneYard.class);
    private static final Map<Call, Method> OF_PLAIN = methodsOf(PlainYard.class);

    private final CraneYard yard = new CraneYard();
    private final PlainYard plain = new PlainYard();
    private final int letters;
    private final int weights;
    private final int longestPass;
    private final int arrivalsFirst;
    private int crates = 0;
    private int words = 0;
    private int hauls = 0;
    private int lastOffered = 0;
    private long seed;

    private RandomRunsTest(int run) {
        seed = run * 0x9E3779B97F4A7C15L + 1;
        letters = draw(3) == 0 ? 26 : 2 + draw(3);
        weights = draw(3) == 0 ? 100 : 1 + draw(4);
        longestPass = draw(4) == 0 ? 100 : 3;
        arrivalsFirst = draw(2) * draw(60);
    }

    public static void main(String[] args) {
        int[] answered = new int[Call.values().length];
        int[] refused = new int[Call.values().length];
        int wrong = 0;
        for (int run = 0; run < RUNS && wrong < WRONG_TOLD; run++) {
            String complaint = new RandomRunsTest(run).complaint(answered, refused);
            if (!complaint.isEmpty()) {
                System.out.println("run " + run + ", " + complaint);
                wrong++;
            }
        }
        for (Call call : Call.values()) {
            System.out.println(call + ": " + answered[call.ordinal()] + " answered, " + refused[call.ordinal()]
                    + " refused");
        }
        if (wrong > 0) {
            System.exit(1);
        }
    }

    private static Map<Call, Method> methodsOf(Class<?> type) {
        Map<Call, Method> methods = new HashMap<>();
        for (Call call : Call.values()) {
            for (Method method : type.getDeclaredMethods()) {
                boolean bears = method.getName().equals(call.name());
                if (bears && !java.lang.reflect.Modifier.isStatic(method.getModifiers())) {
                    methods.put(call, method);
                }
            }
        }
        return methods;
    }

    /** Runs the calls; returns which one answered wrong, or an empty text. */
    private String complaint(int[] answered, int[] refused) {
        for (int number = 0; number < CALLS; number++) {
            Call call = number < arrivalsFirst ? Call.arrive : drawCall();
            Object[] arguments = drawArguments(call);
            Object got = answer(OF_CLASS.get(call), yard, arguments);
            Object due = answer(OF_PLAIN.get(call), plain, arguments);
            if (got == null ? due != null : !got.equals(due)) {
                return "call " + number + ": " + call + Arrays.toString(arguments) + " answered " + got + ", due is "
                        + due;
            }
            boolean threw = got instanceof Class;
            (threw ? refused : answered)[call.ordinal()]++;
            crates += !threw && call == Call.arrive ? 1 : 0;
            words += !threw && call == Call.tell ? 1 : 0;
            hauls += !threw && call == Call.offer ? 1 : 0;
            lastOffered = !threw && call == Call.offer ? (int) arguments[0] : lastOffered;
        }
        return "";
    }

    /** What a call answers, or the class of what it throws. */
    private static Object answer(Method method, Object yard, Object[] arguments) {
        try {
            return method.invoke(yard, arguments);
        } catch (InvocationTargetException thrown) {
            return thrown.getCause().getClass();
        } catch (IllegalAccessException e) {
            throw new AssertionError(e);
        }
    }

    private int draw(int bound) {
        seed = seed * 6364136223846793005L + 1442695040888963407L;
        return (int) ((seed >>> 33) % bound);
    }

    /** A crane that holds a crate bars digs: so it is mostly emptied soon. */
    private Call drawCall() {
        if (plain.crane() != CraneYard.NONE && draw(2) == 0) {
            return draw(2) == 0 ? Call.load : Call.drop;
        }
        int left = draw(1000);
        for (Call call : Call.values()) {
            left -= call.share;
            if (left < 0) {
                return call;
            }
        }
        throw new AssertionError("the shares make less than a thousand");
    }

    private Object[] drawArguments(Call call) {
        int[] drawn = likelyArguments(call);
        if (draw(15) == 0 && drawn.length > 0) {
            drawn[draw(drawn.length)] = EDGES[draw(EDGES.length)];
        }
        return Arrays.stream(drawn).boxed().toArray();
    }

    private int[] likelyArguments(Call call) {
        switch (call) {
            case arrive: return new int[] {1 + draw(weights), draw(letters), draw(6)};
            case lift: case drop: case height: return new int[] {draw(6)};
            case dig: return new int[] {draw(2) == 0 ? lastOffered : drawCrate()};
            case stackOf: return new int[] {drawCrate()};
            case at: return new int[] {draw(6), draw(5)};
            case fewestLifts: return new int[] {drawSet()};
            case tell: return drawWord();
            case hasPaid: return new int[] {draw(words + 1)};
            case offer: return new int[] {drawCrate(), plain.today() + draw(draw(8) == 0 ? 102 : 20)};
            case bid: return new int[] {drawHaul(), draw(4), 1 + draw(draw(2) == 0 ? 3 : 1000)};
            case give: case state: return new int[] {drawHaul()};
            case pass: return new int[] {1 + draw(longestPass)};
            default: return new int[0];
        }
    }

    /** Mostly a crate in a stack: later arrivals lie there more often than early ones. */
    private int drawCrate() {
        int stack = draw(6);
        int height = plain.height(stack);
        return height == 0 ? draw(crates + 1) : plain.at(stack, draw(height));
    }

    private int drawHaul() {
        int back = 1 + draw(4);
        return draw(3) == 0 || hauls < back ? draw(hauls + 1) : hauls - back;
    }

    private int drawSet() {
        int set = 0;
        int size = draw(20) == 0 ? 5 : 1 + draw(4);
        for (int i = 0; i < size; i++) {
            set |= 1 << drawCrate();
        }
        return set;
    }

    private int[] drawWord() {
        int length = 2 + draw(3);
        int[] word = {-1, -1, -1, -1};
        for (int i = 0; i < length; i++) {
            word[i] = draw(letters);
        }
        return word;
    }
}
