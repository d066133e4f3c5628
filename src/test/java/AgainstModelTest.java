import java.lang.reflect.Method;
import java.lang.reflect.Modifier;
import java.util.ArrayList;
import java.util.Arrays;
import java.util.Comparator;
import java.util.List;
import java.util.Random;

/** All promises: long runs of calls, right and wrong ones, on the class and on the model; each answer must be alike. */
final class AgainstModelTest {
    private static final int CALLS = 512;
    private static final int[] WILD = {
        Integer.MIN_VALUE, Integer.MIN_VALUE + 1, -10000, -9999, -3001, -1001, -2, -1, 0, 1, 2, 3, 4, 5, 6, 9, 10, 12,
        19, 20, 35, 36, 40, 99, 100, 101, 999, 1000, 1001, 1023, 1024, 3000, 3001, 9999, 10000, Integer.MAX_VALUE};

    private final Random random;
    private final TrueArms arms = new TrueArms();
    private final Model model = new Model();
    private final List<String> told = new ArrayList<>();
    private final int slowCallsPerMille;

    private AgainstModelTest(long seed, int slowCallsPerMille) {
        this.random = new Random(seed);
        this.slowCallsPerMille = slowCallsPerMille;
    }

    public static void main(String[] args) throws Exception {
        List<Method> calls = publicCalls();
        Due.is("the number of public methods", calls.size(), 32);
        for (int run = 0; run < 240; run++) {
            new AgainstModelTest(run, run % 8 == 0 ? 1000 : 60).run(calls, run);
        }
        Due.end();
    }

    private static List<Method> publicCalls() {
        List<Method> calls = new ArrayList<>();
        for (Method m : TrueArms.class.getDeclaredMethods()) {
            if (Modifier.isPublic(m.getModifiers())) {
                calls.add(m);
            }
        }
        calls.sort(Comparator.comparing(Method::getName));
        return calls;
    }

    private void run(List<Method> calls, int number) throws Exception {
        int done = 0;
        if (number % 3 != 0) {
            done += begin(calls);
        }
        while (done < CALLS) {
            Method m = calls.get(random.nextInt(calls.size()));
            if (isRare(m.getName()) && random.nextInt(1000) >= slowCallsPerMille) {
                continue;
            }
            done++;
            if (!same(m, arguments(m), number)) {
                return;
            }
        }
    }

    /** These empty what the others need, or the model is slow at them. */
    private static boolean isRare(String name) {
        return List.of("near", "nearest", "clear", "shut", "lose", "best").contains(name);
    }

    /** A sheet of near enough measures, so that the fit is often there. */
    private int begin(List<Method> calls) throws Exception {
        int postures = random.nextInt(21);
        Method posture = find(calls, "posture");
        Method put = find(calls, "put");
        same(find(calls, "sheet"), new Object[] {0, 2, 2 * postures}, -1);
        int scale = random.nextInt(4) == 0 ? 40 : 1;
        for (int i = 0; i < postures; i++) {
            int spread = random.nextInt(3) == 0 ? 2 : 36;
            same(posture, new Object[] {random.nextInt(36), random.nextInt(spread), random.nextInt(spread)}, -1);
            for (int what = 0; what < 2; what++) {
                int about = arms.hand(i, what) / 65 * scale + random.nextInt(21) - 10;
                same(put, new Object[] {0, 2, 2 * i + what, about}, -1);
            }
        }
        return 1 + 5 * postures;
    }

    private static Method find(List<Method> calls, String name) {
        return calls.stream().filter(m -> m.getName().equals(name)).findFirst().orElseThrow();
    }

    private boolean same(Method m, Object[] arguments, int number) throws Exception {
        String call = m.getName() + Arrays.toString(arguments);
        told.add(call);
        long got = ((Number) m.invoke(arms, arguments)).longValue();
        Method plain = Model.class.getDeclaredMethod(m.getName(), m.getParameterTypes());
        long want = ((Number) plain.invoke(model, arguments)).longValue();
        Due.is("run " + number + ", call " + told.size() + ": " + call, got, want);
        return got == want;
    }

    private Object[] arguments(Method m) {
        Class<?>[] types = m.getParameterTypes();
        Object[] arguments = new Object[types.length];
        int[] plain = plainArguments(m.getName());
        boolean allWild = random.nextInt(20) == 0;
        int wildOne = random.nextInt(5) == 0 ? random.nextInt(types.length + 1) : -1;
        for (int k = 0; k < types.length; k++) {
            if (types[k] == boolean.class) {
                arguments[k] = random.nextBoolean();
            } else {
                arguments[k] = allWild || k == wildOne ? WILD[random.nextInt(WILD.length)] : plain[k];
            }
        }
        return arguments;
    }

    private int upTo(int most) {
        return random.nextInt(most + 1);
    }

    private int about(int most) {
        return random.nextInt(2 * most + 1) - most;
    }

    private int[] plainArguments(String name) {
        switch (name) {
            case "turn": return new int[] {upTo(35), upTo(1)};
            case "length": return new int[] {upTo(2), 1 + upTo(998)};
            case "posture": return new int[] {upTo(35), upTo(35), upTo(35)};
            case "hand": case "measure": return new int[] {upTo(19), upTo(1)};
            case "leave": return new int[] {upTo(19), 0};
            case "table": return new int[] {upTo(2), upTo(2)};
            case "told": case "fit": return new int[] {upTo(2)};
            case "miss": return new int[] {upTo(19)};
            case "best": return new int[] {1 + upTo(3)};
            case "weight": return new int[] {upTo(1023)};
            case "pair": return pairArguments();
            case "answer": return new int[] {upTo(35), upTo(2)};
            case "limit": return new int[] {upTo(2), upTo(35), upTo(35)};
            case "nearest": case "near": return placeArguments();
            case "drift": return driftArguments();
            case "sheet": return new int[] {upTo(3), upTo(2), upTo(100)};
            case "lose": return new int[] {upTo(3)};
            case "put": return new int[] {upTo(3), upTo(2), upTo(60), valueOfItem()};
            case "get": return new int[] {upTo(3), upTo(2), upTo(60)};
            case "copy": return new int[] {upTo(3), upTo(50), upTo(3), upTo(50), upTo(50)};
            case "count": return new int[] {upTo(5)};
            default: return new int[0];
        }
    }

    /** Mostly a place that quarter turns map onto itself, so that more than one pair may agree. */
    private int[] pairArguments() {
        int p = about(3);
        int q = about(3);
        return random.nextInt(4) == 0 ? new int[] {about(1000), about(1000), about(1000), about(1000)} : new int[] {p, q, -q, p};
    }

    private int[] placeArguments() {
        int most = random.nextBoolean() ? 300 : 3000;
        return new int[] {about(most), about(most)};
    }

    private int[] driftArguments() {
        int i = upTo(60);
        return new int[] {upTo(3), i, i + upTo(39), upTo(2)};
    }

    private int valueOfItem() {
        int kind = random.nextInt(4);
        return kind == 0 ? random.nextInt() : kind == 1 ? about(9999) : about(3);
    }
}
