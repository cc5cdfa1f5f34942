import java.lang.reflect.Method;
import java.util.ArrayList;
import java.util.Arrays;
import java.util.Comparator;
import java.util.List;
import java.util.Random;

/** Long runs of calls, drawn with set seeds, on the program and on the oracle: every answer must be the same. */
public final class OracleTests {
    /** An object has at most 512 calls: up to 131 look at it at its end, and in close runs three more after each call. */
    private static final int RUNS = 3000, CALLS = 380, CLOSE_CALLS = 95;
    private static final int[] EDGES = {
        0, 1, -1, 2, 3, 4, 5, 6, 7, 12, 13, 14, 15, 23, 24, 25, -24, -25, 71, 72, 73, 10000, 10001, -10000, -10001,
        1000, 1001, -1000, -1001, Integer.MAX_VALUE, Integer.MIN_VALUE, 715827883, 1431655766, 32768, 128, 200
    };
    private static int wrong = 0;

    public static void main(String[] args) throws Exception {
        allPairs();
        List<Method> calls = new ArrayList<>();
        for (Method m : FewPlaces.class.getDeclaredMethods()) {
            if (java.lang.reflect.Modifier.isPublic(m.getModifiers())) {
                calls.add(m);
            }
        }
        calls.sort(Comparator.comparing(Method::getName));
        for (int run = 0; run < RUNS && wrong == 0; run++) {
            oneRun(calls, run);
        }
        System.out.println(wrong == 0 ? "all answers are as the oracle's" : wrong + " answers are not as the oracle's");
        if (wrong != 0) {
            System.exit(1);
        }
    }

    private static void same(String where, long got, long want) {
        if (got != want) {
            wrong++;
            System.out.println(where + " answered " + got + ", due is " + want);
        }
    }

    /** Every domain, degree and grid, with all places of what comes of it. */
    private static void allPairs() {
        for (int domain = 0; domain <= 2; domain++) {
            for (int d = 1; d <= 5; d++) {
                for (int q = 1; q <= 6; q++) {
                    FewPlaces x = new FewPlaces();
                    Oracle o = new Oracle();
                    x.begin(domain, 7, 11);
                    o.begin(domain, 7, 11);
                    String where = "domain " + domain + ", pair(" + d + ", " + q + ")";
                    same(where, x.pair(d, q), o.pair(d, q));
                    compareRules(where, x, o);
                }
            }
        }
    }

    private static void compareRules(String where, FewPlaces x, Oracle o) {
        for (int what = 0; what <= 4; what++) {
            same(where + ", told(" + what + ")", x.told(what), o.told(what));
        }
        for (int p = 0; p <= o.told(0); p++) {
            for (int what = 0; what <= 4; what++) {
                same(where + ", about(" + p + ", " + what + ")", x.about(p, what), o.about(p, what));
            }
        }
        same(where + ", degree()", x.degree(), o.degree());
    }

    private static void oneRun(List<Method> calls, int seed) throws Exception {
        Random random = new Random(seed);
        FewPlaces x = new FewPlaces();
        Oracle o = new Oracle();
        boolean isClose = seed % 2 == 0;
        for (int i = 0; i < (isClose ? CLOSE_CALLS : CALLS) && wrong == 0; i++) {
            Method call = calls.get(random.nextInt(calls.size()));
            if (random.nextInt(4) == 0) {
                call = calls.stream().filter(m -> m.getName().matches("place|orbit|put|term|places")).toList().get(random.nextInt(5));
            }
            Object[] args = argumentsOf(call, random);
            long got = ((Number) call.invoke(x, args)).longValue();
            Method twin = Oracle.class.getDeclaredMethod(call.getName(), call.getParameterTypes());
            long want = ((Number) twin.invoke(o, args)).longValue();
            String where = "run " + seed + ", call " + i + ": " + call.getName() + Arrays.toString(args);
            same(where, got, want);
            if (isClose) {
                same(where + " and then fault()", x.fault(), o.fault());
                same(where + " and then trace()", x.trace(), o.trace());
                same(where + " and then told(0)", x.told(0), o.told(0));
            }
        }
        compareRules("end of run " + seed, x, o);
    }

    private static Object[] argumentsOf(Method call, Random random) {
        Object[] args = new Object[call.getParameterCount()];
        boolean allPlain = random.nextInt(6) != 0;
        for (int i = 0; i < args.length; i++) {
            args[i] = allPlain || random.nextBoolean() ? plain(call.getName(), i, random) : EDGES[random.nextInt(EDGES.length)];
        }
        return args;
    }

    /** A number that is mostly as the call wants it. */
    private static int plain(String call, int i, Random random) {
        return switch (call) {
            case "begin" -> i == 0 ? random.nextInt(3) : i == 1 ? 1 + random.nextInt(12) : 1 + random.nextInt(random.nextBoolean() ? 12 : 10000);
            case "moment", "sum", "error" -> i == 2 ? random.nextInt(2) : random.nextInt(5);
            case "place", "orbit" -> i == 2 ? weight(random) : coordinate(random);
            case "places" -> i == 0 ? random.nextInt(4) : i == 1 ? random.nextInt(3) : i == 2 ? random.nextInt(9) : random.nextInt(7);
            case "drop", "tell", "count" -> random.nextInt(16);
            case "about" -> i == 0 ? random.nextInt(16) : random.nextInt(5);
            case "as" -> i == 0 ? random.nextInt(16) : random.nextInt(4);
            case "first" -> random.nextInt(2);
            case "is" -> random.nextInt(3);
            case "least" -> random.nextInt(7);
            case "keep", "load" -> random.nextInt(6);
            case "pair" -> i == 0 ? 1 + random.nextInt(5) : 1 + random.nextInt(6);
            case "term" -> i == 0 ? random.nextInt(15) : random.nextInt(2001) - 1000;
            case "byRule" -> i == 0 ? 1 + random.nextInt(3) : random.nextInt(2);
            case "sheet" -> i == 0 ? random.nextInt(4) : i == 1 ? random.nextInt(3) : random.nextInt(73);
            case "lose" -> random.nextInt(12);
            case "put" -> i == 0 ? random.nextInt(4) : i == 1 ? random.nextInt(30) : random.nextInt(3) == 0 ? weight(random) : coordinate(random);
            case "at" -> i == 0 ? random.nextInt(4) : i == 1 ? random.nextInt(30) : random.nextInt(3);
            case "told" -> random.nextInt(5);
            default -> random.nextInt(2);
        };
    }

    private static int coordinate(Random random) {
        int far = new int[] {2, 3, 6, 12, 24}[random.nextInt(5)];
        return random.nextInt(2 * far + 1) - far;
    }

    private static int weight(Random random) {
        int far = new int[] {1, 5, 100, 10000}[random.nextInt(4)];
        return random.nextInt(2 * far + 1) - far;
    }
}
