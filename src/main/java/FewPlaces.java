import java.util.Arrays;

/**
 * Rules of few places and weights that sum polynomials over a box, a triangle or a diamond,
 * with their exact errors, and the smallest such rules of two orbits on a grid.
 */
public final class FewPlaces {
    public static final int UNKNOWN = -1, OUTSIDE = -2, STATE = -3, FULL = -4, NONE = -9;
    public static final long LOST = Long.MIN_VALUE;

    private static final int BOX = 0, TRIANGLE = 1, DIAMOND = 2;
    private static final int NULL = 1, CAST = 2, INDEX = 3, SIZE = 4;
    private static final int ALONE = 0, OF_MANY = 1, ASTRAY = 2, ANY_WITHIN = 3;

    private static final int MOST_PLACES = 24, FARTHEST = 24, HEAVIEST = 10000;
    private static final int MOST_Q = 12, MOST_W = 10000;
    private static final int TOP_DEGREE = 6, ALL_TERMS = 28;
    private static final int PAIR_DEGREE = 5, PAIR_TERMS = 21, PAIR_Q = 6, PAIR_ORBITS = 28;
    private static final int POLYNOMIAL_DEGREE = 4, POLYNOMIAL_TERMS = 15, MOST_CUTS = 3;
    private static final int MOST_COEFFICIENT = 1000;
    private static final int MOST_KEPT = 6, SHEETS = 4, MOST_CELLS = 72;
    private static final int NO_LANE = -1, LANES = 3;
    private static final int TURNED = 8;

    /** The powers of x and of y in each term, by a + b, then by b: also the order in which errors are looked for. */
    private static final int[] POWER_X = {
        0, 1, 0, 2, 1, 0, 3, 2, 1, 0, 4, 3, 2, 1, 0, 5, 4, 3, 2, 1, 0, 6, 5, 4, 3, 2, 1, 0
    };
    private static final int[] POWER_Y = {
        0, 0, 1, 0, 1, 2, 0, 1, 2, 3, 0, 1, 2, 3, 4, 0, 1, 2, 3, 4, 5, 0, 1, 2, 3, 4, 5, 6
    };
    private static final int[] FACTORIAL = {1, 1, 2, 6, 24, 120, 720, 5040, 40320};

    private final Rule rule = new Rule();
    private final Rule trial = new Rule();
    private final Orbit turned = new Orbit();
    private final Grid grid = new Grid();
    private final Fraction answer = new Fraction();
    private final Fraction part = new Fraction();
    private final Rule[] keptRules = new Rule[MOST_KEPT];
    private final boolean[] isKept = new boolean[MOST_KEPT];
    private final int[] coefficients = new int[POLYNOMIAL_TERMS];
    private final long[] powersOfX = new long[POLYNOMIAL_DEGREE + 1];
    private final long[] powersOfY = new long[POLYNOMIAL_DEGREE + 1];
    private final long[] powersOfLower = new long[POLYNOMIAL_DEGREE + 1];
    private final Sheet[] sheets = new Sheet[SHEETS];
    private int traced = 0;
    private int latestFault = 0;

    public FewPlaces() {
        for (int k = 0; k < MOST_KEPT; k++) {
            keptRules[k] = new Rule();
        }
        for (int k = 0; k < SHEETS; k++) {
            sheets[k] = new Sheet();
        }
    }

    // ---- 1 the rule

    public int begin(int domain, int q, int w) {
        if (!isFrom(domain, BOX, DIAMOND) || !isFrom(q, 1, MOST_Q) || !isFrom(w, 1, MOST_W)) {
            return OUTSIDE;
        }
        rule.startAnew(domain, q, w);
        return 1;
    }

    public long moment(int a, int b, int which) {
        if (!arePowers(a, b) || !isFrom(which, 0, 1)) {
            return LOST;
        }
        answer.becomeMoment(rule.domain, a, b);
        return answer.showing(which);
    }

    public int place(int x, int y, int w) {
        return rule.add(x, y, w);
    }

    public int orbit(int x, int y, int w) {
        if (!isFrom(x, -FARTHEST, FARTHEST) || !isFrom(y, -FARTHEST, FARTHEST) || !isFrom(w, -HEAVIEST, HEAVIEST)) {
            return OUTSIDE;
        }
        turned.gather(rule.domain, rule.q, x, y);
        int refused = refusalOfOrbit(w);
        if (refused != 0) {
            return refused;
        }
        rule.addAll(turned, w);
        return turned.size;
    }

    public int places(int sheet, int lane, int i, int n) {
        latestFault = 0;
        if (!isFrom(sheet, 0, SHEETS - 1)) {
            return UNKNOWN;
        }
        if (!isFrom(lane, 0, LANES - 1)) {
            return OUTSIDE;
        }
        Sheet from = sheets[sheet];
        if (from.isOfOtherLane(lane)) {
            return failed(CAST);
        }
        if (from.hasNothing()) {
            return failed(NULL);
        }
        if (n < 0) {
            return failed(SIZE);
        }
        if (!from.hasCells(i, 3L * n)) {
            return failed(INDEX);
        }
        return addFrom(from, i, n);
    }

    public int drop(int p) {
        if (!rule.has(p)) {
            return UNKNOWN;
        }
        rule.takeOut(p);
        return rule.size;
    }

    public int about(int p, int what) {
        if (!rule.has(p)) {
            return UNKNOWN;
        }
        switch (what) {
            case 0:
                return rule.xs[p];
            case 1:
                return rule.ys[p];
            case 2:
                return rule.weights[p];
            case 3:
                return sizeOfOrbit(p);
            case 4:
                return rule.isWithin(p) ? 1 : 0;
            default:
                return OUTSIDE;
        }
    }

    public long sum(int a, int b, int which) {
        if (!arePowers(a, b) || !isFrom(which, 0, 1)) {
            return LOST;
        }
        findSum(a, b);
        return answer.showing(which);
    }

    public long error(int a, int b, int which) {
        if (!arePowers(a, b) || !isFrom(which, 0, 1)) {
            return LOST;
        }
        findError(a, b);
        return answer.showing(which);
    }

    public int degree() {
        int t = firstWrongTerm();
        if (t == NONE) {
            return TOP_DEGREE;
        }
        int wrongDegree = POWER_X[t] + POWER_Y[t];
        return wrongDegree == 0 ? NONE : wrongDegree - 1;
    }

    public int first(int what) {
        if (!isFrom(what, 0, 1)) {
            return OUTSIDE;
        }
        int t = firstWrongTerm();
        if (t == NONE) {
            return STATE;
        }
        return what == 0 ? POWER_X[t] : POWER_Y[t];
    }

    public int is(int what) {
        switch (what) {
            case 0:
                return areAllWithin() ? 1 : 0;
            case 1:
                return areAllAbove() ? 1 : 0;
            case 2:
                return isEven() ? 1 : 0;
            default:
                return OUTSIDE;
        }
    }

    public int least(int d) {
        if (!isFrom(d, 0, TOP_DEGREE)) {
            return OUTSIDE;
        }
        int half = d / 2;
        return (half + 1) * (half + 2) / 2;
    }

    // ---- 2 kept ones, pairs

    public int keep(int k) {
        if (!isFrom(k, 0, MOST_KEPT - 1)) {
            return UNKNOWN;
        }
        keptRules[k].copyFrom(rule);
        isKept[k] = true;
        return rule.size;
    }

    public int load(int k) {
        if (!isFrom(k, 0, MOST_KEPT - 1) || !isKept[k]) {
            return UNKNOWN;
        }
        rule.copyFrom(keptRules[k]);
        return rule.size;
    }

    public int pair(int d, int q) {
        if (!isFrom(d, 1, PAIR_DEGREE) || !isFrom(q, 1, PAIR_Q)) {
            return OUTSIDE;
        }
        grid.gather(rule.domain, q, turned);
        if (!grid.findFewest(d)) {
            return NONE;
        }
        becomePair(grid.bestFirst, grid.bestSecond);
        return rule.size;
    }

    // ---- 3 polynomials

    public long term(int t, int c) {
        if (!isFrom(t, 0, POLYNOMIAL_TERMS - 1) || !isFrom(c, -MOST_COEFFICIENT, MOST_COEFFICIENT)) {
            return LOST;
        }
        int before = coefficients[t];
        coefficients[t] = c;
        return before;
    }

    public long whole(int which) {
        if (!isFrom(which, 0, 1)) {
            return LOST;
        }
        answer.become(0, 1);
        for (int t = 0; t < POLYNOMIAL_TERMS; t++) {
            part.becomeMoment(rule.domain, POWER_X[t], POWER_Y[t]);
            answer.addTimes(coefficients[t], part);
        }
        return answer.showing(which);
    }

    public long byRule(int k, int which) {
        if (!isFrom(k, 1, MOST_CUTS) || !isFrom(which, 0, 1)) {
            return LOST;
        }
        if (k > 1 && rule.domain != BOX) {
            return LOST;
        }
        findSumOfCut(k);
        return answer.showing(which);
    }

    // ---- sheets, parts

    public int sheet(int k, int lane, int n) {
        latestFault = 0;
        if (!isFrom(k, 0, SHEETS - 1)) {
            return UNKNOWN;
        }
        if (!isFrom(lane, 0, LANES - 1) || n > MOST_CELLS) {
            return OUTSIDE;
        }
        if (n < 0) {
            return failed(SIZE);
        }
        sheets[k].renew(lane, n);
        return 1;
    }

    public int lose(int k) {
        if (!isFrom(k, 0, SHEETS - 1)) {
            return UNKNOWN;
        }
        if (sheets[k].hasNothing()) {
            return 0;
        }
        sheets[k].empty();
        return 1;
    }

    public int put(int k, int i, int v) {
        latestFault = 0;
        if (!isFrom(k, 0, SHEETS - 1)) {
            return UNKNOWN;
        }
        Sheet to = sheets[k];
        if (to.hasNothing()) {
            return failed(NULL);
        }
        if (!to.hasCells(i, 1)) {
            return failed(INDEX);
        }
        to.write(i, v);
        return 1;
    }

    public long at(int k, int i, int lane) {
        latestFault = 0;
        if (!isFrom(k, 0, SHEETS - 1) || !isFrom(lane, 0, LANES - 1)) {
            return LOST;
        }
        Sheet from = sheets[k];
        int fault = faultOfReading(from, i, lane);
        if (fault != 0) {
            latestFault = fault;
            return LOST;
        }
        return from.cells[i];
    }

    public int tell(int p) {
        if (!rule.has(p)) {
            return UNKNOWN;
        }
        switch (kindOf(p)) {
            case ALONE:
                return tellAlone(p);
            case OF_MANY:
                return tellOfMany(p);
            default:
                return tellAstray(p);
        }
    }

    public int count(int p) {
        if (!rule.has(p)) {
            return UNKNOWN;
        }
        return rule.isWithin(p) ? countLent(p) : countAstray();
    }

    public int as(int p, int kind) {
        latestFault = 0;
        if (!rule.has(p)) {
            return UNKNOWN;
        }
        if (!isFrom(kind, ALONE, ANY_WITHIN)) {
            return OUTSIDE;
        }
        int own = kindOf(p);
        boolean fits = kind == ANY_WITHIN ? own != ASTRAY : own == kind;
        return fits ? 1 : failed(CAST);
    }

    public int trace() {
        return traced;
    }

    public int fault() {
        return latestFault;
    }

    public int told(int what) {
        switch (what) {
            case 0:
                return rule.size;
            case 1:
                return rule.domain;
            case 2:
                return rule.q;
            case 3:
                return rule.w;
            case 4:
                return howManyKept();
            default:
                return OUTSIDE;
        }
    }

    // ---- what the calls are made of

    private static boolean isFrom(int number, int low, int high) {
        return number >= low && number <= high;
    }

    private static boolean arePowers(int a, int b) {
        // Each alone first: their sum could wrap.
        return isFrom(a, 0, TOP_DEGREE) && isFrom(b, 0, TOP_DEGREE) && a + b <= TOP_DEGREE;
    }

    private static long power(long base, int exponent) {
        long product = 1;
        for (int i = 0; i < exponent; i++) {
            product *= base;
        }
        return product;
    }

    /** All powers of a base that there is room for, from the one with 0 on. */
    private static void fillPowers(long base, long[] powers) {
        long product = 1;
        for (int i = 0; i < powers.length; i++) {
            powers[i] = product;
            product *= base;
        }
    }

    private static long commonDivisor(long one, long other) {
        long a = Math.abs(one);
        long b = Math.abs(other);
        // Euclid needs at most 92 steps for longs.
        for (int step = 0; step < 100 && b != 0; step++) {
            long rest = a % b;
            a = b;
            b = rest;
        }
        return a;
    }

    private static boolean liesIn(int domain, int q, int x, int y) {
        switch (domain) {
            case BOX:
                return Math.abs(x) <= q && Math.abs(y) <= q;
            case TRIANGLE:
                return x >= 0 && y >= 0 && x + y <= q;
            default:
                return Math.abs(x) + Math.abs(y) <= q;
        }
    }

    private int failed(int fault) {
        latestFault = fault;
        return -10 - fault;
    }

    private int refusalOfOrbit(int w) {
        int fresh = 0;
        for (int i = 0; i < turned.size; i++) {
            int refused = rule.refusalOutside(turned.xs[i], turned.ys[i], w);
            if (refused != 0) {
                return refused;
            }
            if (rule.numberOf(turned.xs[i], turned.ys[i]) == UNKNOWN) {
                fresh++;
            }
        }
        return fresh > MOST_PLACES - rule.size ? FULL : 0;
    }

    /** On a copy first, as a refusal of a later place must leave no earlier one behind. */
    private int addFrom(Sheet from, int i, int n) {
        trial.copyFrom(rule);
        for (int m = 0; m < n; m++) {
            int cell = i + 3 * m;
            int number = trial.add(from.cells[cell], from.cells[cell + 1], from.cells[cell + 2]);
            if (number < 0) {
                return number;
            }
        }
        rule.copyFrom(trial);
        return rule.size;
    }

    private int sizeOfOrbit(int p) {
        turned.gather(rule.domain, rule.q, rule.xs[p], rule.ys[p]);
        return turned.size;
    }

    private void findSum(int a, int b) {
        answer.become(rule.weighedPowers(a, b), rule.w * power(rule.q, a + b));
    }

    private void findError(int a, int b) {
        findSum(a, b);
        part.becomeMoment(rule.domain, a, b);
        answer.addTimes(-1, part);
    }

    private int firstWrongTerm() {
        for (int t = 0; t < ALL_TERMS; t++) {
            findError(POWER_X[t], POWER_Y[t]);
            if (answer.upper != 0) {
                return t;
            }
        }
        return NONE;
    }

    private boolean areAllWithin() {
        for (int p = 0; p < rule.size; p++) {
            if (!rule.isWithin(p)) {
                return false;
            }
        }
        return true;
    }

    private boolean areAllAbove() {
        for (int p = 0; p < rule.size; p++) {
            if (rule.weights[p] <= 0) {
                return false;
            }
        }
        return true;
    }

    private boolean isEven() {
        for (int p = 0; p < rule.size; p++) {
            turned.gather(rule.domain, rule.q, rule.xs[p], rule.ys[p]);
            if (!isOrbitOfWeight(rule.weights[p])) {
                return false;
            }
        }
        return true;
    }

    private boolean isOrbitOfWeight(int weight) {
        for (int i = 0; i < turned.size; i++) {
            int number = rule.numberOf(turned.xs[i], turned.ys[i]);
            if (number == UNKNOWN || rule.weights[number] != weight) {
                return false;
            }
        }
        return true;
    }

    private void becomePair(int one, int other) {
        // The search went on past the best pair: its weights are found again.
        if (!grid.weigh(one, other)) {
            return;
        }
        rule.startAnew(rule.domain, grid.q, (int) grid.lower);
        turned.gather(rule.domain, rule.q, grid.xs[one], grid.ys[one]);
        rule.addAll(turned, (int) grid.firstWeight);
        turned.gather(rule.domain, rule.q, grid.xs[other], grid.ys[other]);
        rule.addAll(turned, (int) grid.secondWeight);
    }

    private void findSumOfCut(int k) {
        fillPowers((long) k * rule.q, powersOfLower);
        long upper = 0;
        for (int i = 0; i < k; i++) {
            for (int j = 0; j < k; j++) {
                // The middle of the smaller box, told by the same lower number as its places.
                upper += sumMoved((2 * i + 1 - k) * rule.q, (2 * j + 1 - k) * rule.q);
            }
        }
        answer.become(upper, (long) rule.w * k * k * powersOfLower[POLYNOMIAL_DEGREE]);
    }

    private long sumMoved(int moveX, int moveY) {
        long total = 0;
        for (int p = 0; p < rule.size; p++) {
            total += rule.weights[p] * valueAt(rule.xs[p] + moveX, rule.ys[p] + moveY);
        }
        return total;
    }

    /** The polynomial at (x by lower, y by lower), times lower to the fourth. */
    private long valueAt(int x, int y) {
        fillPowers(x, powersOfX);
        fillPowers(y, powersOfY);
        long value = 0;
        for (int t = 0; t < POLYNOMIAL_TERMS; t++) {
            if (coefficients[t] != 0) {
                int missing = POLYNOMIAL_DEGREE - POWER_X[t] - POWER_Y[t];
                value += coefficients[t] * powersOfX[POWER_X[t]] * powersOfY[POWER_Y[t]] * powersOfLower[missing];
            }
        }
        return value;
    }

    private static int faultOfReading(Sheet from, int i, int lane) {
        if (from.isOfOtherLane(lane)) {
            return CAST;
        }
        if (from.hasNothing()) {
            return NULL;
        }
        return from.hasCells(i, 1) ? 0 : INDEX;
    }

    private int kindOf(int p) {
        if (!rule.isWithin(p)) {
            return ASTRAY;
        }
        return sizeOfOrbit(p) == 1 ? ALONE : OF_MANY;
    }

    private void leaveTrace(int number) {
        traced = 31 * traced + number;
    }

    private int tellAlone(int p) {
        leaveTrace(1);
        return rule.weights[p];
    }

    private int tellOfMany(int p) {
        leaveTrace(2);
        return tellAlone(p) + sizeOfOrbit(p);
    }

    private int tellAstray(int p) {
        leaveTrace(3);
        return -tellAlone(p);
    }

    private int countLent(int p) {
        leaveTrace(4);
        return p;
    }

    private int countAstray() {
        leaveTrace(5);
        return 77;
    }

    private int howManyKept() {
        int kept = 0;
        for (int k = 0; k < MOST_KEPT; k++) {
            if (isKept[k]) {
                kept++;
            }
        }
        return kept;
    }

    /** A fraction in least terms, its lower number above 0. */
    private static final class Fraction {
        long upper = 0;
        long lower = 1;

        void become(long up, long low) {
            long divisor = commonDivisor(up, low);
            if (divisor == 0 || low == 0) {
                upper = 0;
                lower = 1;
                return;
            }
            long signed = low < 0 ? -divisor : divisor;
            upper = up / signed;
            lower = low / signed;
        }

        void addTimes(long factor, Fraction other) {
            become(upper * other.lower + factor * other.upper * lower, lower * other.lower);
        }

        void becomeMoment(int domain, int a, int b) {
            boolean vanishes = (a % 2 != 0 || b % 2 != 0) && domain != TRIANGLE;
            if (vanishes || !arePowers(a, b)) {
                become(0, 1);
            } else if (domain == BOX) {
                become(4, (a + 1) * (b + 1));
            } else {
                int quarters = domain == DIAMOND ? 4 : 1;
                become(quarters * FACTORIAL[a] * FACTORIAL[b], FACTORIAL[a + b + 2]);
            }
        }

        long showing(int which) {
            return which == 0 ? upper : lower;
        }
    }

    /** All places that the turns of a domain take one place to, by x, then y. */
    private static final class Orbit {
        final int[] xs = new int[TURNED];
        final int[] ys = new int[TURNED];
        int size = 0;

        void gather(int domain, int q, int x, int y) {
            size = 0;
            if (domain == TRIANGLE) {
                int z = q - x - y;
                insertBothWays(x, y);
                insertBothWays(x, z);
                insertBothWays(y, z);
            } else {
                insertBothWays(x, y);
                insertBothWays(x, -y);
                insertBothWays(-x, y);
                insertBothWays(-x, -y);
            }
        }

        void insertBothWays(int x, int y) {
            insert(x, y);
            insert(y, x);
        }

        void insert(int x, int y) {
            int spot = 0;
            while (spot < size && isAhead(spot, x, y)) {
                spot++;
            }
            boolean isThere = spot < size && xs[spot] == x && ys[spot] == y;
            if (isThere || size >= TURNED) {
                return;
            }
            for (int i = size; i > spot; i--) {
                xs[i] = xs[i - 1];
                ys[i] = ys[i - 1];
            }
            xs[spot] = x;
            ys[spot] = y;
            size++;
        }

        boolean isAhead(int spot, int x, int y) {
            return xs[spot] < x || xs[spot] == x && ys[spot] < y;
        }
    }

    /** A domain, the two lower numbers, and the places with their weights. */
    private static final class Rule {
        int domain = BOX;
        int q = 1;
        int w = 1;
        int size = 0;
        final int[] xs = new int[MOST_PLACES];
        final int[] ys = new int[MOST_PLACES];
        final int[] weights = new int[MOST_PLACES];

        void startAnew(int newDomain, int newQ, int newW) {
            domain = newDomain;
            q = newQ;
            w = newW;
            size = 0;
        }

        void copyFrom(Rule other) {
            startAnew(other.domain, other.q, other.w);
            size = other.size;
            System.arraycopy(other.xs, 0, xs, 0, size);
            System.arraycopy(other.ys, 0, ys, 0, size);
            System.arraycopy(other.weights, 0, weights, 0, size);
        }

        boolean has(int p) {
            return p >= 0 && p < size;
        }

        boolean isWithin(int p) {
            return liesIn(domain, q, xs[p], ys[p]);
        }

        int numberOf(int x, int y) {
            for (int p = 0; p < size; p++) {
                if (xs[p] == x && ys[p] == y) {
                    return p;
                }
            }
            return UNKNOWN;
        }

        int refusalOutside(int x, int y, int weight) {
            if (!isFrom(x, -FARTHEST, FARTHEST) || !isFrom(y, -FARTHEST, FARTHEST)) {
                return OUTSIDE;
            }
            if (!isFrom(weight, -HEAVIEST, HEAVIEST)) {
                return OUTSIDE;
            }
            int p = numberOf(x, y);
            int would = p == UNKNOWN ? weight : weights[p] + weight;
            return isFrom(would, -HEAVIEST, HEAVIEST) ? 0 : OUTSIDE;
        }

        int add(int x, int y, int weight) {
            int refused = refusalOutside(x, y, weight);
            if (refused != 0) {
                return refused;
            }
            int p = numberOf(x, y);
            if (p != UNKNOWN) {
                weights[p] += weight;
                return p;
            }
            if (size >= MOST_PLACES) {
                return FULL;
            }
            xs[size] = x;
            ys[size] = y;
            weights[size] = weight;
            size++;
            return size - 1;
        }

        void addAll(Orbit orbit, int weight) {
            for (int i = 0; i < orbit.size; i++) {
                add(orbit.xs[i], orbit.ys[i], weight);
            }
        }

        void takeOut(int p) {
            for (int i = p + 1; i < size; i++) {
                xs[i - 1] = xs[i];
                ys[i - 1] = ys[i];
                weights[i - 1] = weights[i];
            }
            size--;
        }

        long weighedPowers(int a, int b) {
            long total = 0;
            for (int p = 0; p < size; p++) {
                total += weights[p] * power(xs[p], a) * power(ys[p], b);
            }
            return total;
        }
    }

    /** A row of numbers of a lane, or nothing; the cells are made once and used again. */
    private static final class Sheet {
        int lane = NO_LANE;
        int length = 0;
        final int[] cells = new int[MOST_CELLS];

        void renew(int newLane, int newLength) {
            lane = newLane;
            length = newLength;
            Arrays.fill(cells, 0);
        }

        void empty() {
            lane = NO_LANE;
            length = 0;
        }

        boolean hasNothing() {
            return lane == NO_LANE;
        }

        boolean isOfOtherLane(int asked) {
            return lane != NO_LANE && lane != asked;
        }

        /** None at all are always there, wherever they would begin. */
        boolean hasCells(int start, long many) {
            return many == 0 || start >= 0 && start + many <= length;
        }

        void write(int i, int v) {
            switch (lane) {
                case 0:
                    cells[i] = (byte) v;
                    break;
                case 1:
                    cells[i] = (short) v;
                    break;
                default:
                    cells[i] = v;
                    break;
            }
        }
    }

    /** The orbits of a grid within a domain, in order of their least place, and the search of pairs of them. */
    private static final class Grid {
        int domain = BOX;
        int q = 1;
        int size = 0;
        final int[] xs = new int[PAIR_ORBITS];
        final int[] ys = new int[PAIR_ORBITS];
        final int[] counts = new int[PAIR_ORBITS];
        /** What r is at each place of an orbit, times q q. */
        final int[] radii = new int[PAIR_ORBITS];
        /** What X^a Y^b gives over the places of an orbit, so that a pair is tried without going through them. */
        final long[][] powerSums = new long[PAIR_ORBITS][PAIR_TERMS];
        /** The moments times q^(a + b). */
        final long[] dueUpper = new long[PAIR_TERMS];
        final long[] dueLower = new long[PAIR_TERMS];
        final long[] powersOfX = new long[PAIR_DEGREE + 1];
        final long[] powersOfY = new long[PAIR_DEGREE + 1];
        final Fraction one = new Fraction();
        final Fraction other = new Fraction();
        long firstWeight = 0;
        long secondWeight = 0;
        long lower = 1;
        int bestFirst = NONE;
        int bestSecond = NONE;

        void gather(int newDomain, int newQ, Orbit orbit) {
            domain = newDomain;
            q = newQ;
            size = 0;
            for (int x = -q; x <= q; x++) {
                for (int y = x; y <= q; y++) {
                    if (size < PAIR_ORBITS && isLeastOfOrbit(x, y) && liesIn(domain, q, x, y)) {
                        orbit.gather(domain, q, x, y);
                        append(x, y, orbit);
                    }
                }
            }
            for (int t = 0; t < PAIR_TERMS; t++) {
                one.becomeMoment(domain, POWER_X[t], POWER_Y[t]);
                dueUpper[t] = one.upper * power(q, POWER_X[t] + POWER_Y[t]);
                dueLower[t] = one.lower;
            }
        }

        boolean isLeastOfOrbit(int x, int y) {
            int atMost = domain == TRIANGLE ? q - x - y : 0;
            return x <= y && y <= atMost;
        }

        void append(int x, int y, Orbit orbit) {
            int z = domain == TRIANGLE ? q - x - y : 0;
            xs[size] = x;
            ys[size] = y;
            counts[size] = orbit.size;
            radii[size] = x * x + y * y + z * z;
            Arrays.fill(powerSums[size], 0);
            for (int i = 0; i < orbit.size; i++) {
                addPowers(powerSums[size], orbit.xs[i], orbit.ys[i]);
            }
            size++;
        }

        void addPowers(long[] sums, int x, int y) {
            fillPowers(x, powersOfX);
            fillPowers(y, powersOfY);
            for (int t = 0; t < PAIR_TERMS; t++) {
                sums[t] += powersOfX[POWER_X[t]] * powersOfY[POWER_Y[t]];
            }
        }

        /** Whether there is a pair for the degree: bestFirst and bestSecond are the orbits of the fewest. */
        boolean findFewest(int degree) {
            int fewest = MOST_PLACES + 1;
            for (int i = 0; i < size; i++) {
                for (int j = i + 1; j < size; j++) {
                    int many = counts[i] + counts[j];
                    if (many < fewest && weigh(i, j) && isRightUpTo(degree, i, j)) {
                        fewest = many;
                        bestFirst = i;
                        bestSecond = j;
                    }
                }
            }
            return fewest <= MOST_PLACES;
        }

        /** Whether two orbits have weights that give the sums of 1 and of r, and that a rule can hold. */
        boolean weigh(int i, int j) {
            long apart = radii[j] - radii[i];
            if (apart == 0) {
                return false;
            }
            // The squares in r all have the moment of x x, as the turns change them for one another.
            int squares = domain == TRIANGLE ? 3 : 2;
            int square = 3;
            long total = dueUpper[0] * dueLower[square];
            long spread = squares * dueUpper[square] * dueLower[0];
            long scale = dueLower[0] * dueLower[square] * apart;
            one.become(total * radii[j] - spread, scale * counts[i]);
            other.become(spread - total * radii[i], scale * counts[j]);
            return one.upper > 0 && other.upper > 0 && bringToOneLower();
        }

        boolean bringToOneLower() {
            long divisor = commonDivisor(one.lower, other.lower);
            if (divisor == 0 || one.lower == 0 || other.lower == 0) {
                return false;
            }
            lower = one.lower / divisor * other.lower;
            firstWeight = one.upper * (lower / one.lower);
            secondWeight = other.upper * (lower / other.lower);
            return lower <= MOST_W && firstWeight <= HEAVIEST && secondWeight <= HEAVIEST;
        }

        boolean isRightUpTo(int degree, int i, int j) {
            int terms = (degree + 1) * (degree + 2) / 2;
            for (int t = 0; t < terms && t < PAIR_TERMS; t++) {
                long sum = firstWeight * powerSums[i][t] + secondWeight * powerSums[j][t];
                if (sum * dueLower[t] != dueUpper[t] * lower) {
                    return false;
                }
            }
            return true;
        }
    }
}
