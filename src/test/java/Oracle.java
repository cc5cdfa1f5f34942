import java.math.BigInteger;
import java.util.ArrayList;
import java.util.Comparator;
import java.util.List;
import java.util.TreeSet;

/** The document once more, written slowly and otherwise than the program: with big fractions, sets and whole searches. */
final class Oracle {
    static final long LOST = Long.MIN_VALUE;

    /** A fraction of big numbers in least terms. */
    static final class Big {
        static final Big ZERO = new Big(BigInteger.ZERO, BigInteger.ONE);
        final BigInteger up;
        final BigInteger low;

        Big(BigInteger up, BigInteger low) {
            BigInteger g = up.gcd(low);
            if (low.signum() < 0) {
                g = g.negate();
            }
            this.up = up.divide(g);
            this.low = low.divide(g);
        }

        static Big of(long up, long low) {
            return new Big(BigInteger.valueOf(up), BigInteger.valueOf(low));
        }

        Big plus(Big o) {
            return new Big(up.multiply(o.low).add(o.up.multiply(low)), low.multiply(o.low));
        }

        Big minus(Big o) {
            return plus(new Big(o.up.negate(), o.low));
        }

        Big times(Big o) {
            return new Big(up.multiply(o.up), low.multiply(o.low));
        }

        Big by(Big o) {
            return new Big(up.multiply(o.low), low.multiply(o.up));
        }

        Big pow(int n) {
            return new Big(up.pow(n), low.pow(n));
        }

        boolean isZero() {
            return up.signum() == 0;
        }

        long part(int which) {
            return (which == 0 ? up : low).longValueExact();
        }
    }

    record Spot(int x, int y) {
        static final Comparator<Spot> ORDER = Comparator.comparingInt(Spot::x).thenComparingInt(Spot::y);
    }

    record Weighed(Spot spot, int w) { }

    record State(int domain, int q, int w, List<Weighed> places) { }

    State rule = new State(0, 1, 1, List.of());
    final State[] kept = new State[6];
    final int[] coefficients = new int[15];
    final Object[] sheets = new Object[4];
    int trace = 0;
    int fault = 0;

    static boolean in(long n, long low, long high) {
        return n >= low && n <= high;
    }

    static TreeSet<Spot> orbitOf(int domain, int q, Spot s) {
        TreeSet<Spot> all = new TreeSet<>(Spot.ORDER);
        if (domain == 1) {
            int[] three = {s.x, s.y, q - s.x - s.y};
            for (int i = 0; i < 3; i++) {
                for (int j = 0; j < 3; j++) {
                    if (i != j) {
                        all.add(new Spot(three[i], three[j]));
                    }
                }
            }
            return all;
        }
        for (int sx = -1; sx <= 1; sx += 2) {
            for (int sy = -1; sy <= 1; sy += 2) {
                all.add(new Spot(sx * s.x, sy * s.y));
                all.add(new Spot(sy * s.y, sx * s.x));
            }
        }
        return all;
    }

    static boolean within(int domain, int q, Spot s) {
        return switch (domain) {
            case 0 -> in(s.x, -q, q) && in(s.y, -q, q);
            case 1 -> s.x >= 0 && s.y >= 0 && s.x + s.y <= q;
            default -> s.x + s.y <= q && s.x - s.y <= q && s.y - s.x <= q && -s.x - s.y <= q;
        };
    }

    static long factorial(int n) {
        return n < 2 ? 1 : n * factorial(n - 1);
    }

    static Big momentOf(int domain, int a, int b) {
        if (domain != 1 && (a % 2 == 1 || b % 2 == 1)) {
            return Big.ZERO;
        }
        if (domain == 0) {
            return Big.of(4, (long) (a + 1) * (b + 1));
        }
        return Big.of((domain == 2 ? 4 : 1) * factorial(a) * factorial(b), factorial(a + b + 2));
    }

    static Big sumOf(State r, int a, int b) {
        Big total = Big.ZERO;
        for (Weighed p : r.places) {
            Big value = Big.of(p.spot.x, r.q).pow(a).times(Big.of(p.spot.y, r.q).pow(b));
            total = total.plus(Big.of(p.w, r.w).times(value));
        }
        return total;
    }

    static Big errorOf(State r, int a, int b) {
        return sumOf(r, a, b).minus(momentOf(r.domain, a, b));
    }

    static int degreeOf(State r) {
        int degree = -9;
        for (int d = 0; d <= 6; d++) {
            for (int a = 0; a <= d; a++) {
                if (!errorOf(r, a, d - a).isZero()) {
                    return degree;
                }
            }
            degree = d;
        }
        return degree;
    }

    static int find(List<Weighed> places, Spot s) {
        for (int p = 0; p < places.size(); p++) {
            if (places.get(p).spot.equals(s)) {
                return p;
            }
        }
        return -1;
    }

    static boolean powers(int a, int b, int which) {
        return a >= 0 && b >= 0 && (long) a + b <= 6 && in(which, 0, 1);
    }

    /** Adds a place to a list: its number or a refusal. */
    static int add(List<Weighed> places, int x, int y, int w) {
        if (!in(x, -24, 24) || !in(y, -24, 24) || !in(w, -10000, 10000)) {
            return -2;
        }
        Spot s = new Spot(x, y);
        int p = find(places, s);
        if (p >= 0) {
            int would = places.get(p).w + w;
            if (!in(would, -10000, 10000)) {
                return -2;
            }
            places.set(p, new Weighed(s, would));
            return p;
        }
        if (places.size() == 24) {
            return -4;
        }
        places.add(new Weighed(s, w));
        return places.size() - 1;
    }

    void placesBecome(List<Weighed> places) {
        rule = new State(rule.domain, rule.q, rule.w, places);
    }

    int begin(int domain, int q, int w) {
        if (!in(domain, 0, 2) || !in(q, 1, 12) || !in(w, 1, 10000)) {
            return -2;
        }
        rule = new State(domain, q, w, List.of());
        return 1;
    }

    long moment(int a, int b, int which) {
        return powers(a, b, which) ? momentOf(rule.domain, a, b).part(which) : LOST;
    }

    int place(int x, int y, int w) {
        List<Weighed> next = new ArrayList<>(rule.places);
        int answer = add(next, x, y, w);
        if (answer >= 0) {
            placesBecome(next);
        }
        return answer;
    }

    int orbit(int x, int y, int w) {
        if (!in(x, -24, 24) || !in(y, -24, 24) || !in(w, -10000, 10000)) {
            return -2;
        }
        TreeSet<Spot> orbit = orbitOf(rule.domain, rule.q, new Spot(x, y));
        List<Weighed> next = new ArrayList<>(rule.places);
        boolean full = false;
        for (Spot s : orbit) {
            int answer = add(next, s.x, s.y, w);
            if (answer == -2) {
                return -2;
            }
            full |= answer == -4;
        }
        if (full) {
            return -4;
        }
        placesBecome(next);
        return orbit.size();
    }

    int failed(int which) {
        fault = which;
        return -10 - which;
    }

    static int laneOf(Object row) {
        return row instanceof byte[] ? 0 : row instanceof short[] ? 1 : 2;
    }

    static int lengthOf(Object row) {
        return java.lang.reflect.Array.getLength(row);
    }

    static int cell(Object row, int i) {
        return java.lang.reflect.Array.getInt(row, i);
    }

    int places(int sheet, int lane, int i, int n) {
        fault = 0;
        if (!in(sheet, 0, 3)) {
            return -1;
        }
        if (!in(lane, 0, 2)) {
            return -2;
        }
        Object row = sheets[sheet];
        if (row != null && laneOf(row) != lane) {
            return failed(2);
        }
        if (row == null) {
            return failed(1);
        }
        if (n < 0) {
            return failed(4);
        }
        for (long c = i; c < i + 3L * n; c++) {
            if (!in(c, 0, lengthOf(row) - 1)) {
                return failed(3);
            }
        }
        List<Weighed> next = new ArrayList<>(rule.places);
        for (int m = 0; m < n; m++) {
            int c = i + 3 * m;
            int answer = add(next, cell(row, c), cell(row, c + 1), cell(row, c + 2));
            if (answer < 0) {
                return answer;
            }
        }
        placesBecome(next);
        return next.size();
    }

    boolean unknown(int p) {
        return !in(p, 0, rule.places.size() - 1);
    }

    int drop(int p) {
        if (unknown(p)) {
            return -1;
        }
        List<Weighed> next = new ArrayList<>(rule.places);
        next.remove(p);
        placesBecome(next);
        return next.size();
    }

    int orbitSize(int p) {
        return orbitOf(rule.domain, rule.q, rule.places.get(p).spot).size();
    }

    boolean within(int p) {
        return within(rule.domain, rule.q, rule.places.get(p).spot);
    }

    int about(int p, int what) {
        if (unknown(p)) {
            return -1;
        }
        Weighed w = rule.places.get(p);
        return switch (what) {
            case 0 -> w.spot.x;
            case 1 -> w.spot.y;
            case 2 -> w.w;
            case 3 -> orbitSize(p);
            case 4 -> within(p) ? 1 : 0;
            default -> -2;
        };
    }

    long sum(int a, int b, int which) {
        return powers(a, b, which) ? sumOf(rule, a, b).part(which) : LOST;
    }

    long error(int a, int b, int which) {
        return powers(a, b, which) ? errorOf(rule, a, b).part(which) : LOST;
    }

    int degree() {
        return degreeOf(rule);
    }

    int first(int what) {
        if (!in(what, 0, 1)) {
            return -2;
        }
        for (int d = 0; d <= 6; d++) {
            for (int a = d; a >= 0; a--) {
                if (!errorOf(rule, a, d - a).isZero()) {
                    return what == 0 ? a : d - a;
                }
            }
        }
        return -3;
    }

    int is(int what) {
        if (!in(what, 0, 2)) {
            return -2;
        }
        for (int p = 0; p < rule.places.size(); p++) {
            Weighed w = rule.places.get(p);
            if (what == 0 && !within(p) || what == 1 && w.w <= 0) {
                return 0;
            }
            if (what == 2) {
                for (Spot s : orbitOf(rule.domain, rule.q, w.spot)) {
                    if (!rule.places.contains(new Weighed(s, w.w))) {
                        return 0;
                    }
                }
            }
        }
        return 1;
    }

    int least(int d) {
        int[] table = {1, 1, 3, 3, 6, 6, 10};
        return in(d, 0, 6) ? table[d] : -2;
    }

    int keep(int k) {
        if (!in(k, 0, 5)) {
            return -1;
        }
        kept[k] = rule;
        return rule.places.size();
    }

    int load(int k) {
        if (!in(k, 0, 5) || kept[k] == null) {
            return -1;
        }
        rule = kept[k];
        return rule.places.size();
    }

    static Big radius(int domain, int q, Spot s) {
        Big x = Big.of(s.x, q);
        Big y = Big.of(s.y, q);
        Big r = x.pow(2).plus(y.pow(2));
        return domain == 1 ? r.plus(Big.of(1, 1).minus(x).minus(y).pow(2)) : r;
    }

    static Big momentOfRadius(int domain) {
        Big r = momentOf(domain, 2, 0).plus(momentOf(domain, 0, 2));
        if (domain != 1) {
            return r;
        }
        // z z is 1 - 2 x - 2 y + x x + 2 x y + y y.
        Big two = Big.of(2, 1);
        return r.plus(momentOf(1, 0, 0)).minus(two.times(momentOf(1, 1, 0))).minus(two.times(momentOf(1, 0, 1)))
            .plus(momentOf(1, 2, 0)).plus(two.times(momentOf(1, 1, 1))).plus(momentOf(1, 0, 2));
    }

    /** The rule of two orbits, or null if there is none. */
    static State pairOf(int domain, int q, TreeSet<Spot> one, TreeSet<Spot> other) {
        Big r1 = radius(domain, q, one.first());
        Big r2 = radius(domain, q, other.first());
        if (r2.minus(r1).isZero()) {
            return null;
        }
        Big total = momentOf(domain, 0, 0);
        Big spread = momentOfRadius(domain);
        // What the second orbit gives of 1, then the rest of it: the first.
        Big second = spread.minus(total.times(r1)).by(r2.minus(r1));
        Big w2 = second.by(Big.of(other.size(), 1));
        Big w1 = total.minus(second).by(Big.of(one.size(), 1));
        if (w1.up.signum() <= 0 || w2.up.signum() <= 0) {
            return null;
        }
        for (int w = 1; w <= 10000; w++) {
            Big n1 = w1.times(Big.of(w, 1));
            Big n2 = w2.times(Big.of(w, 1));
            if (n1.part(1) == 1 && n2.part(1) == 1) {
                if (n1.part(0) > 10000 || n2.part(0) > 10000) {
                    return null;
                }
                List<Weighed> places = new ArrayList<>();
                for (Spot s : one) {
                    places.add(new Weighed(s, (int) n1.part(0)));
                }
                for (Spot s : other) {
                    places.add(new Weighed(s, (int) n2.part(0)));
                }
                return new State(domain, q, w, places);
            }
        }
        return null;
    }

    static State fewest(int domain, int d, int q) {
        List<TreeSet<Spot>> orbits = new ArrayList<>();
        for (int x = -q; x <= q; x++) {
            for (int y = -q; y <= q; y++) {
                Spot s = new Spot(x, y);
                TreeSet<Spot> orbit = orbitOf(domain, q, s);
                if (within(domain, q, s) && orbit.first().equals(s)) {
                    orbits.add(orbit);
                }
            }
        }
        State best = null;
        for (int i = 0; i < orbits.size(); i++) {
            for (int j = i + 1; j < orbits.size(); j++) {
                State r = pairOf(domain, q, orbits.get(i), orbits.get(j));
                if (r != null && r.places.size() <= 24 && degreeOf(r) >= d
                    && (best == null || r.places.size() < best.places.size())) {
                    best = r;
                }
            }
        }
        return best;
    }

    /** Found once for all objects, as the whole search is slow. */
    private static final State[][][] FEWEST = new State[3][6][7];
    private static final boolean[][][] SOUGHT = new boolean[3][6][7];

    int pair(int d, int q) {
        if (!in(d, 1, 5) || !in(q, 1, 6)) {
            return -2;
        }
        if (!SOUGHT[rule.domain][d][q]) {
            FEWEST[rule.domain][d][q] = fewest(rule.domain, d, q);
            SOUGHT[rule.domain][d][q] = true;
        }
        State best = FEWEST[rule.domain][d][q];
        if (best == null) {
            return -9;
        }
        rule = best;
        return best.places.size();
    }

    long term(int t, int c) {
        if (!in(t, 0, 14) || !in(c, -1000, 1000)) {
            return LOST;
        }
        int was = coefficients[t];
        coefficients[t] = c;
        return was;
    }

    long whole(int which) {
        if (!in(which, 0, 1)) {
            return LOST;
        }
        Big total = Big.ZERO;
        int t = 0;
        for (int d = 0; d <= 4; d++) {
            for (int b = 0; b <= d; b++) {
                total = total.plus(Big.of(coefficients[t++], 1).times(momentOf(rule.domain, d - b, b)));
            }
        }
        return total.part(which);
    }

    Big valueAt(Big x, Big y) {
        Big total = Big.ZERO;
        int t = 0;
        for (int d = 0; d <= 4; d++) {
            for (int b = 0; b <= d; b++) {
                total = total.plus(Big.of(coefficients[t++], 1).times(x.pow(d - b)).times(y.pow(b)));
            }
        }
        return total;
    }

    long byRule(int k, int which) {
        if (!in(k, 1, 3) || !in(which, 0, 1) || k > 1 && rule.domain != 0) {
            return LOST;
        }
        Big total = Big.ZERO;
        Big half = Big.of(1, k);
        for (int i = 0; i < k; i++) {
            for (int j = 0; j < k; j++) {
                // The left and lower side of the smaller box, and from there to its middle.
                Big midX = Big.of(2 * i, k).minus(Big.of(1, 1)).plus(half);
                Big midY = Big.of(2 * j, k).minus(Big.of(1, 1)).plus(half);
                for (Weighed p : rule.places) {
                    Big x = midX.plus(half.times(Big.of(p.spot.x, rule.q)));
                    Big y = midY.plus(half.times(Big.of(p.spot.y, rule.q)));
                    total = total.plus(Big.of(p.w, (long) rule.w * k * k).times(valueAt(x, y)));
                }
            }
        }
        return total.part(which);
    }

    int sheet(int k, int lane, int n) {
        fault = 0;
        if (!in(k, 0, 3)) {
            return -1;
        }
        if (!in(lane, 0, 2) || n > 72) {
            return -2;
        }
        if (n < 0) {
            return failed(4);
        }
        sheets[k] = lane == 0 ? new byte[n] : lane == 1 ? new short[n] : new int[n];
        return 1;
    }

    int lose(int k) {
        if (!in(k, 0, 3)) {
            return -1;
        }
        int had = sheets[k] == null ? 0 : 1;
        sheets[k] = null;
        return had;
    }

    int put(int k, int i, int v) {
        fault = 0;
        if (!in(k, 0, 3)) {
            return -1;
        }
        if (sheets[k] == null) {
            return failed(1);
        }
        if (!in(i, 0, lengthOf(sheets[k]) - 1)) {
            return failed(3);
        }
        if (sheets[k] instanceof byte[] bytes) {
            bytes[i] = (byte) v;
        } else if (sheets[k] instanceof short[] shorts) {
            shorts[i] = (short) v;
        } else {
            ((int[]) sheets[k])[i] = v;
        }
        return 1;
    }

    long at(int k, int i, int lane) {
        fault = 0;
        if (!in(k, 0, 3) || !in(lane, 0, 2)) {
            return LOST;
        }
        Object row = sheets[k];
        if (row == null) {
            fault = 1;
        } else if (laneOf(row) != lane) {
            fault = 2;
        } else if (!in(i, 0, lengthOf(row) - 1)) {
            fault = 3;
        }
        return fault == 0 ? cell(row, i) : LOST;
    }

    void leave(int number) {
        trace = trace * 31 + number;
    }

    int tell(int p) {
        if (unknown(p)) {
            return -1;
        }
        int w = rule.places.get(p).w;
        if (!within(p)) {
            leave(3);
            leave(1);
            return -w;
        }
        if (orbitSize(p) > 1) {
            leave(2);
            leave(1);
            return w + orbitSize(p);
        }
        leave(1);
        return w;
    }

    int count(int p) {
        if (unknown(p)) {
            return -1;
        }
        leave(within(p) ? 4 : 5);
        return within(p) ? p : 77;
    }

    int as(int p, int kind) {
        fault = 0;
        if (unknown(p)) {
            return -1;
        }
        if (!in(kind, 0, 3)) {
            return -2;
        }
        boolean fits = switch (kind) {
            case 0 -> within(p) && orbitSize(p) == 1;
            case 1 -> within(p) && orbitSize(p) > 1;
            case 2 -> !within(p);
            default -> within(p);
        };
        return fits ? 1 : failed(2);
    }

    int trace() {
        return trace;
    }

    int fault() {
        return fault;
    }

    int told(int what) {
        int keptMany = 0;
        for (State k : kept) {
            keptMany += k == null ? 0 : 1;
        }
        return switch (what) {
            case 0 -> rule.places.size();
            case 1 -> rule.domain;
            case 2 -> rule.q;
            case 3 -> rule.w;
            case 4 -> keptMany;
            default -> -2;
        };
    }
}
