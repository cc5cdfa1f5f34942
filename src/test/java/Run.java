import java.lang.reflect.InvocationTargetException;
import java.lang.reflect.Method;
import java.lang.reflect.Modifier;
import java.util.ArrayList;
import java.util.HashMap;
import java.util.List;
import java.util.Map;
import java.util.Set;
import java.util.regex.Matcher;
import java.util.regex.Pattern;

/**
 * One object whose calls are written as texts: "told(0)", or "told(0) = 24" where the answer is looked at.
 * It counts them, as nothing is promised of an object behind its 512th call.
 */
final class Run {
    private static final int MOST_CALLS = 512;
    private static final Pattern ROW = Pattern.compile("(\\w+)\\(([^)]*)\\)(?: = (\\S+))?");
    private static final Map<String, Method> FACE = face();
    private static int wrong = 0;

    private final String sentence;
    private final FewPlaces it = new FewPlaces();
    private int made = 0;

    Run(String sentence) {
        this.sentence = sentence;
    }

    private static Map<String, Method> face() {
        Map<String, Method> calls = new HashMap<>();
        for (Method m : FewPlaces.class.getDeclaredMethods()) {
            if (Modifier.isPublic(m.getModifiers())) {
                calls.put(m.getName(), m);
            }
        }
        return calls;
    }

    /** The names of all calls of the face. */
    static Set<String> names() {
        return FACE.keySet();
    }

    /** Tells how the tests of one class went, and ends the program if one failed. */
    static void end() {
        System.out.println(wrong == 0 ? "all answers are as due" : wrong + " answers are not as due");
        if (wrong != 0) {
            System.exit(1);
        }
    }

    static void complain(String what) {
        wrong++;
        System.out.println(what);
    }

    private static long number(String text) {
        return switch (text) {
            case "TOP" -> Integer.MAX_VALUE;
            case "BOTTOM" -> Integer.MIN_VALUE;
            case "LOST" -> Long.MIN_VALUE;
            default -> Long.parseLong(text);
        };
    }

    private static Object[] arguments(String text) {
        String[] parts = text.isEmpty() ? new String[0] : text.split(", ");
        Object[] args = new Object[parts.length];
        for (int i = 0; i < parts.length; i++) {
            args[i] = Math.toIntExact(number(parts[i]));
        }
        return args;
    }

    private static Matcher parse(String row) {
        Matcher parts = ROW.matcher(row);
        if (!parts.matches() || !FACE.containsKey(parts.group(1))) {
            throw new IllegalArgumentException("no row: " + row);
        }
        return parts;
    }

    private long answer(Matcher parts) {
        made++;
        if (made == MOST_CALLS + 1) {
            complain(sentence + ": the test makes more than " + MOST_CALLS + " calls");
        }
        try {
            return ((Number) FACE.get(parts.group(1)).invoke(it, arguments(parts.group(2)))).longValue();
        } catch (InvocationTargetException | IllegalAccessException e) {
            throw new IllegalStateException(sentence + ": " + parts.group(), e.getCause());
        }
    }

    /** The answer of one call, which is not looked at here. */
    long call(String text) {
        return answer(parse(text));
    }

    Run rows(String... rows) {
        for (String row : rows) {
            Matcher parts = parse(row);
            long got = answer(parts);
            if (parts.group(3) != null && got != number(parts.group(3))) {
                complain(sentence + ": " + row + " is due as call " + made + ", but it answered " + got);
            }
        }
        return this;
    }

    Run row(String form, Object... numbers) {
        return rows(String.format(form, numbers));
    }

    /** A fraction by the two calls that tell it, the text having %d for which. */
    Run fraction(String form, long upper, long lower) {
        return rows(String.format(form, 0) + " = " + upper, String.format(form, 1) + " = " + lower);
    }

    /** All that can be told of the object but fault(). It is of no use afterwards: what it held has been changed. */
    List<Long> all() {
        List<Long> seen = new ArrayList<>();
        seen.add(call("trace()"));
        seen.add(call("told(4)"));
        tellRule(seen);
        for (int k = 0; k < 4; k++) {
            for (int lane = 0; lane < 3; lane++) {
                tellRow(seen, k, lane);
            }
        }
        for (int t = 0; t < 15; t++) {
            seen.add(call("term(" + t + ", 0)"));
        }
        for (int k = 0; k < 6; k++) {
            seen.add(call("load(" + k + ")"));
            tellRule(seen);
            call("begin(0, 1, 1)");
        }
        return seen;
    }

    private void tellRule(List<Long> seen) {
        long places = call("told(0)");
        seen.add(places);
        for (int what = 1; what < 4; what++) {
            seen.add(call("told(" + what + ")"));
        }
        for (int p = 0; p < places; p++) {
            for (int what = 0; what < 3; what++) {
                seen.add(call("about(" + p + ", " + what + ")"));
            }
        }
    }

    /** The cells of a row; behind the last of them the fault tells a row that ends from one of another lane. */
    private void tellRow(List<Long> seen, int k, int lane) {
        long cell = 0;
        for (int i = 0; i <= 72 && cell != Long.MIN_VALUE; i++) {
            cell = call("at(" + k + ", " + i + ", " + lane + ")");
            seen.add(cell);
        }
        seen.add(call("fault()"));
    }
}
