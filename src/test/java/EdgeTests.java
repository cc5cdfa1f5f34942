import java.util.LinkedHashMap;
import java.util.List;
import java.util.Map;

/**
 * The least and the greatest of all that the document allows, nothing and all there is room for, cells that are cut and
 * numbers that wrap. Great fractions were worked out outside of the program; what lies just outside is in RefusalTests.
 */
public final class EdgeTests {
    public static void main(String[] args) {
        newObject();
        calls();
        begin();
        moment();
        allMoments();
        place();
        roomForPlaces();
        orbit();
        roomForOrbits();
        orbitOfTriangle();
        places();
        placesOfCutCells();
        placesInRoom();
        drop();
        aboutDomains();
        aboutOrbits();
        sum();
        allSums();
        error();
        degreeAndFirst();
        within();
        above();
        even();
        least();
        keepAndLoad();
        pairs();
        pairTakesOver();
        term();
        termsAreNumbered();
        whole();
        byRule();
        sheet();
        lose();
        put();
        at();
        tell();
        count();
        as();
        trace();
        fault();
        told();
        Run.end();
    }

    private static void newObject() {
        Run run = new Run("1 a new object").rows("told(0) = 0", "told(1) = 0", "told(2) = 1", "told(3) = 1", "told(4) = 0",
            "trace() = 0", "fault() = 0", "degree() = -9", "first(0) = 0", "first(1) = 0", "is(0) = 1", "is(1) = 1", "is(2) = 1");
        run.fraction("whole(%d)", 0, 1).fraction("byRule(1, %d)", 0, 1).fraction("byRule(3, %d)", 0, 1);
        run.fraction("sum(0, 0, %d)", 0, 1).fraction("error(0, 0, %d)", -4, 1).fraction("moment(0, 0, %d)", 4, 1);
        for (int t = 0; t < 15; t++) {
            run.row("term(%d, 0) = 0", t);
        }
        for (int k = 0; k < 6; k++) {
            run.row("load(%d) = -1", k);
        }
        for (int k = 0; k < 4; k++) {
            run.row("put(%d, 0, 0) = -11", k).row("lose(%d) = 0", k);
        }
    }

    private static void calls() {
        Run run = new Run("the 512th call is still answered").rows("place(0, 0, 1) = 0");
        int due = 0;
        for (int i = 0; i < 510; i++) {
            run.rows("tell(0) = 1");
            due = 31 * due + 1;
        }
        run.row("trace() = %d", due);
    }

    private static void begin() {
        for (int domain = 0; domain <= 2; domain++) {
            new Run("2 least and greatest q, w").row("begin(%d, 1, 1) = 1", domain).row("told(1) = %d", domain)
                .rows("told(2) = 1", "told(3) = 1").row("begin(%d, 12, 10000) = 1", domain).row("told(1) = %d", domain)
                .rows("told(2) = 12", "told(3) = 10000", "told(0) = 0");
        }
        Run run = filled("2 without all places", 24);
        run.rows("begin(0, 5, 1) = 1", "told(0) = 0", "about(0, 0) = -1", "place(1, 1, 1) = 0");
        new Run("2 all but the rule stays").rows("place(0, 0, 3)", "keep(2)", "term(7, -1000)", "sheet(1, 1, 1)", "put(1, 0, 9)",
            "tell(0)", "put(1, 1, 0) = -13", "begin(1, 2, 3) = 1", "fault() = 3", "trace() = 1", "at(1, 0, 1) = 9", "term(7, 0) = -1000",
            "told(4) = 1", "load(2) = 1", "about(0, 2) = 3");
    }

    private static void moment() {
        new Run("3 box").fraction("moment(0, 0, %d)", 4, 1).fraction("moment(6, 0, %d)", 4, 7).fraction("moment(0, 6, %d)", 4, 7)
            .fraction("moment(4, 2, %d)", 4, 15).fraction("moment(2, 4, %d)", 4, 15).fraction("moment(5, 1, %d)", 0, 1)
            .fraction("moment(3, 3, %d)", 0, 1).fraction("moment(0, 1, %d)", 0, 1).fraction("moment(2, 3, %d)", 0, 1);
        new Run("3 triangle").rows("begin(1, 1, 1)").fraction("moment(0, 0, %d)", 1, 2).fraction("moment(6, 0, %d)", 1, 56)
            .fraction("moment(0, 6, %d)", 1, 56).fraction("moment(5, 1, %d)", 1, 336).fraction("moment(1, 5, %d)", 1, 336)
            .fraction("moment(4, 2, %d)", 1, 840).fraction("moment(3, 3, %d)", 1, 1120).fraction("moment(0, 1, %d)", 1, 6)
            .fraction("moment(5, 0, %d)", 1, 42).fraction("moment(2, 3, %d)", 1, 420).fraction("moment(4, 0, %d)", 1, 30)
            .fraction("moment(0, 3, %d)", 1, 20).fraction("moment(1, 1, %d)", 1, 24);
        new Run("3 diamond").rows("begin(2, 1, 1)").fraction("moment(0, 0, %d)", 2, 1).fraction("moment(6, 0, %d)", 1, 14)
            .fraction("moment(0, 6, %d)", 1, 14).fraction("moment(4, 2, %d)", 1, 210).fraction("moment(5, 1, %d)", 0, 1)
            .fraction("moment(3, 3, %d)", 0, 1).fraction("moment(1, 0, %d)", 0, 1);
    }

    /** A moment of the triangle is 1 by (n + 1) (n + 2) times the binomial of n and a, n being a + b. */
    private static void allMoments() {
        Run box = new Run("3 box, all").rows("begin(0, 5, 7)", "place(1, 2, 3)");
        Run triangle = new Run("3 triangle, all").rows("begin(1, 5, 7)", "place(1, 2, 3)");
        Run diamond = new Run("3 diamond, all").rows("begin(2, 5, 7)", "place(1, 2, 3)");
        for (int n = 0; n <= 6; n++) {
            for (int a = 0; a <= n; a++) {
                int b = n - a;
                boolean vanishes = a % 2 == 1 || b % 2 == 1;
                int lower = (n + 1) * (n + 2) * binomial(n, a);
                int common = lower % 4 == 0 ? 4 : 2;
                String form = "moment(" + a + ", " + b + ", %d)";
                box.fraction(form, vanishes ? 0 : 4, vanishes ? 1 : (a + 1) * (b + 1));
                triangle.fraction(form, 1, lower);
                diamond.fraction(form, vanishes ? 0 : 4 / common, vanishes ? 1 : lower / common);
            }
        }
    }

    private static void place() {
        new Run("4 least and greatest x, y, w").rows("place(24, -24, 10000) = 0", "place(-24, 24, -10000) = 1", "place(24, 24, 0) = 2",
            "place(-24, -24, 1) = 3", "about(0, 0) = 24", "about(0, 1) = -24", "about(0, 2) = 10000", "about(1, 0) = -24",
            "about(1, 1) = 24", "about(1, 2) = -10000", "about(2, 2) = 0");
        new Run("4 what w would be: 10000").rows("place(1, 2, 9999) = 0", "place(1, 2, 2) = -2", "place(1, 2, 1) = 0",
            "about(0, 2) = 10000", "place(1, 2, 1) = -2", "place(1, 2, -10000) = 0", "about(0, 2) = 0", "told(0) = 1");
        new Run("4 what w would be: -10000").rows("place(1, 2, -9999) = 0", "place(1, 2, -2) = -2", "place(1, 2, -1) = 0",
            "about(0, 2) = -10000", "place(1, 2, -1) = -2", "place(1, 2, 10000) = 0", "about(0, 2) = 0", "told(0) = 1");
        new Run("4 unlike places").rows("place(1, 2, 1) = 0", "place(2, 1, 1) = 1", "place(-1, 2, 1) = 2", "place(1, -2, 1) = 3",
            "place(1, 2, 1) = 0", "told(0) = 4");
    }

    /** The rule of the box with Q 5 and the places (-12 .. 11, 20) up to how many are wanted, each of the weight 1. */
    private static Run filled(String sentence, int many) {
        Run run = new Run(sentence).rows("begin(0, 5, 1)");
        for (int i = 0; i < many; i++) {
            run.row("place(%d, 20, 1) = %d", i - 12, i);
        }
        return run;
    }

    private static void roomForPlaces() {
        filled("4 the last one there is room for", 23).rows("place(0, 0, 1) = 23", "told(0) = 24", "place(0, 1, 1) = -4", "told(0) = 24");
        filled("4 one that there is, when full", 24).rows("place(-12, 20, 9999) = 0", "place(11, 20, -10000) = 23", "about(0, 2) = 10000",
            "about(23, 2) = -9999", "told(0) = 24", "place(-12, 20, 1) = -2");
    }

    private static void orbit() {
        new Run("5 least and greatest x, y, w: the box").rows("orbit(24, -24, 10000) = 4", "about(0, 0) = -24", "about(0, 1) = -24",
            "about(1, 1) = 24", "about(3, 2) = 10000", "orbit(-24, 24, -10000) = 4", "about(3, 2) = 0", "told(0) = 4",
            "orbit(24, 23, -10000) = 8", "told(0) = 12", "orbit(24, 24, 0) = 4", "told(0) = 12");
        new Run("5 least and greatest x, y, w: the diamond").rows("begin(2, 12, 10000)", "orbit(-24, 0, -10000) = 4",
            "about(0, 0) = -24", "about(1, 1) = -24", "about(2, 1) = 24", "about(3, 0) = 24", "orbit(0, 0, 10000) = 1", "told(0) = 5");
        new Run("5 a w that reaches 10000").rows("place(0, 1, 9999)", "orbit(1, 0, 2) = -2", "told(0) = 1", "orbit(1, 0, 1) = 4",
            "about(0, 2) = 10000", "about(1, 0) = -1", "about(1, 2) = 1", "told(0) = 4");
        new Run("5 a w that reaches -10000").rows("place(0, 1, -9999)", "orbit(1, 0, -2) = -2", "told(0) = 1", "orbit(1, 0, -1) = 4",
            "about(0, 2) = -10000");
        new Run("5 by X, then Y, those that there are stay where they are").rows("place(1, 0, 5) = 0", "orbit(0, 1, 2) = 4",
            "about(0, 2) = 7", "about(1, 0) = -1", "about(2, 1) = -1", "about(3, 1) = 1", "told(0) = 4");
    }

    private static void roomForOrbits() {
        filled("5 one, the last", 23).rows("orbit(0, 0, 1) = 1", "told(0) = 24");
        filled("5 four, the last", 20).rows("orbit(3, 3, 1) = 4", "told(0) = 24", "about(23, 0) = 3");
        filled("5 eight, the last", 16).rows("orbit(3, 4, 1) = 8", "told(0) = 24", "about(23, 0) = 4", "about(23, 1) = 3");
        filled("5 one too many of four", 21).rows("orbit(3, 3, 1) = -4", "told(0) = 21");
        filled("5 one too many of eight", 17).rows("orbit(3, 4, 1) = -4", "told(0) = 17");
        filled("5 three of four, the last, as one is there", 21).rows("orbit(0, 20, 1) = 4", "told(0) = 24", "about(12, 2) = 2");
        filled("5 one too many of three, as one is there", 22).rows("orbit(0, 20, 1) = -4", "told(0) = 22", "about(12, 2) = 1");
        new Run("5 all of them are there, when full").rows("orbit(1, 2, 1)", "orbit(1, 3, 1)", "orbit(2, 3, 1) = 8", "told(0) = 24",
            "orbit(1, 2, 9999) = 8", "about(0, 2) = 10000", "about(23, 2) = 1", "told(0) = 24", "orbit(2, 1, 1) = -2", "orbit(0, 0, 1) = -4");
    }

    private static void orbitOfTriangle() {
        new Run("5 z is 24").rows("begin(1, 12, 1)", "orbit(-6, -6, 1) = 3", "about(2, 0) = 24", "orbit(-7, -6, 1) = -2", "orbit(-24, 12, 1) = 6",
            "told(0) = 9");
        new Run("5 z is -24").rows("begin(1, 1, 1)", "orbit(24, 1, 1) = 6", "about(0, 0) = -24", "orbit(24, 2, 1) = -2", "orbit(1, 24, 1) = 6",
            "told(0) = 6", "orbit(-24, 1, 1) = 6", "orbit(-24, 0, 1) = -2");
        new Run("5 three corners").rows("begin(1, 12, 1)", "orbit(12, 0, -1) = 3", "about(0, 0) = 0", "about(0, 1) = 0", "about(1, 1) = 12",
            "about(2, 0) = 12", "about(2, 2) = -1");
        new Run("5 one alone").rows("begin(1, 12, 1)", "orbit(4, 4, 1) = 1", "told(0) = 1");
        new Run("5 no one alone").rows("begin(1, 11, 1)", "orbit(4, 4, 1) = 3", "told(0) = 3");
    }

    private static void places() {
        Run run = new Run("6 all cells, all places").rows("sheet(3, 1, 72)");
        for (int p = 0; p < 24; p++) {
            run.row("put(3, %d, %d)", 3 * p, 24 - 2 * p).row("put(3, %d, %d)", 3 * p + 1, p - 24).row("put(3, %d, %d)", 3 * p + 2, 10000 - p);
        }
        run.rows("places(3, 1, 0, 25) = -13", "places(3, 1, 1, 24) = -13", "told(0) = 0", "places(3, 1, 0, 24) = 24", "fault() = 0",
            "about(0, 0) = 24", "about(0, 1) = -24", "about(0, 2) = 10000", "about(23, 0) = -22", "about(23, 1) = -1", "about(23, 2) = 9977",
            "places(3, 1, 72, 0) = 24", "places(3, 1, 69, 1) = -2", "put(3, 71, 23)", "places(3, 1, 69, 1) = 24", "about(23, 2) = 10000",
            "places(3, 1, 70, 1) = -13");
        new Run("6 none of the cells").rows("sheet(0, 2, 3)", "places(0, 2, 0, 0) = 0", "places(0, 2, 3, 0) = 0", "fault() = 0",
            "sheet(1, 0, 0)", "places(1, 0, 0, 0) = 0", "places(1, 0, 0, 1) = -13", "fault() = 3");
        new Run("6 none of the cells are all there, from wherever").rows("sheet(0, 2, 3)", "places(0, 2, 4, 0) = 0", "fault() = 0",
            "places(0, 2, -1, 0) = 0", "fault() = 0");
        new Run("6 the last three cells").rows("sheet(0, 2, 4)", "put(0, 1, 7)", "put(0, 2, -7)", "put(0, 3, 77)", "places(0, 2, 2, 1) = -13",
            "places(0, 2, 1, 1) = 1", "about(0, 0) = 7", "about(0, 1) = -7", "about(0, 2) = 77");
        new Run("6 the cells stay").rows("sheet(0, 0, 3)", "put(0, 0, 1)", "put(0, 1, 2)", "put(0, 2, 3)", "places(0, 0, 0, 1) = 1", "drop(0)",
            "places(0, 0, 0, 1) = 1", "at(0, 0, 0) = 1", "at(0, 1, 0) = 2", "at(0, 2, 0) = 3", "about(0, 2) = 3");
        new Run("6 two cells are not three").rows("sheet(0, 2, 2)", "places(0, 2, 0, 1) = -13", "fault() = 3");
    }

    private static void placesOfCutCells() {
        new Run("6 bytes").rows("sheet(0, 0, 3)", "put(0, 0, 280)", "put(0, 1, -280)", "put(0, 2, 128)", "places(0, 0, 0, 1) = 1",
            "about(0, 0) = 24", "about(0, 1) = -24", "about(0, 2) = -128");
        new Run("6 a byte that is outside as it is cut").rows("sheet(0, 0, 3)", "put(0, 0, 281)", "places(0, 0, 0, 1) = -2", "put(0, 0, 0)",
            "put(0, 1, 231)", "places(0, 0, 0, 1) = -2", "put(0, 1, 232)", "places(0, 0, 0, 1) = 1", "about(0, 1) = -24");
        new Run("6 shorts").rows("sheet(0, 1, 3)", "put(0, 0, 65560)", "put(0, 1, -65560)", "put(0, 2, 75536)", "places(0, 1, 0, 1) = 1",
            "about(0, 0) = 24", "about(0, 1) = -24", "about(0, 2) = 10000", "put(0, 2, 75537)", "put(0, 0, 1)", "places(0, 1, 0, 1) = -2");
        new Run("6 ints").rows("sheet(0, 2, 3)", "put(0, 2, 65536)", "places(0, 2, 0, 1) = -2", "put(0, 2, TOP)", "places(0, 2, 0, 1) = -2",
            "put(0, 2, BOTTOM)", "places(0, 2, 0, 1) = -2", "put(0, 2, -10000)", "places(0, 2, 0, 1) = 1", "about(0, 2) = -10000");
    }

    private static void placesInRoom() {
        new Run("6 like ones that reach 10000").rows("sheet(0, 1, 6)", "put(0, 2, 4000)", "put(0, 5, 6001)", "places(0, 1, 0, 2) = -2",
            "told(0) = 0", "put(0, 5, 6000)", "places(0, 1, 0, 2) = 1", "about(0, 2) = 10000");
        new Run("6 up, then down again").rows("place(0, 0, 10000)", "sheet(0, 1, 6)", "put(0, 2, -1)", "put(0, 5, 1)", "places(0, 1, 0, 2) = 1",
            "about(0, 2) = 10000", "put(0, 2, 1)", "put(0, 5, -1)", "places(0, 1, 0, 2) = -2", "about(0, 2) = 10000");
        filled("6 the last one, and one that there is", 23).rows("sheet(0, 0, 9)", "put(0, 0, 1)", "put(0, 2, 5)", "put(0, 3, 1)", "put(0, 5, 6)",
            "put(0, 6, 2)", "places(0, 0, 0, 3) = -4", "told(0) = 23", "places(0, 0, 0, 2) = 24", "about(23, 2) = 11",
            "places(0, 0, 0, 2) = 24", "about(23, 2) = 22", "places(0, 0, 6, 1) = -4", "fault() = 0");
    }

    private static void drop() {
        new Run("7 the only one").rows("place(1, 2, 3)", "drop(0) = 0", "told(0) = 0", "drop(0) = -1", "place(1, 2, 4) = 0", "about(0, 2) = 4");
        filled("7 the first of all", 24).rows("drop(0) = 23", "about(0, 0) = -11", "about(22, 0) = 11", "about(23, 0) = -1",
            "place(-12, 20, 7) = 23", "about(23, 2) = 7", "place(0, 0, 1) = -4");
        filled("7 the last of all", 24).rows("drop(23) = 23", "about(22, 0) = 10", "about(23, 0) = -1", "drop(23) = -1", "place(0, 0, 1) = 23");
        new Run("7 all of a place moves up").rows("place(1, 2, 3)", "place(4, 5, 6)", "place(7, 8, 9)", "drop(1) = 2", "about(0, 2) = 3",
            "about(1, 0) = 7", "about(1, 1) = 8", "about(1, 2) = 9", "drop(0) = 1", "about(0, 0) = 7", "about(0, 2) = 9");
        Run run = filled("7 all of them", 24);
        for (int left = 23; left >= 0; left--) {
            run.row("drop(%d) = %d", left / 2, left);
        }
        run.rows("told(0) = 0", "drop(0) = -1");
    }

    private static void aboutDomains() {
        new Run("8 the border of the box, and just behind it").rows("begin(0, 12, 1)", "place(12, 12, 1)", "place(-12, 12, 1)", "place(12, -12, 1)",
            "place(-12, -12, 1)", "place(13, 0, 1)", "place(-13, 0, 1)", "place(0, 13, 1)", "place(0, -13, 1)", "about(0, 4) = 1",
            "about(1, 4) = 1", "about(2, 4) = 1", "about(3, 4) = 1", "about(4, 4) = 0", "about(5, 4) = 0", "about(6, 4) = 0", "about(7, 4) = 0");
        new Run("8 the border of the triangle, and just behind it").rows("begin(1, 12, 1)", "place(0, 0, 1)", "place(12, 0, 1)", "place(0, 12, 1)",
            "place(5, 7, 1)", "place(-1, 5, 1)", "place(5, -1, 1)", "place(5, 8, 1)", "place(13, -1, 1)", "about(0, 4) = 1", "about(1, 4) = 1",
            "about(2, 4) = 1", "about(3, 4) = 1", "about(4, 4) = 0", "about(5, 4) = 0", "about(6, 4) = 0", "about(7, 4) = 0");
        new Run("8 the border of the diamond, and just behind it").rows("begin(2, 12, 1)", "place(12, 0, 1)", "place(0, -12, 1)", "place(-5, 7, 1)",
            "place(-6, -6, 1)", "place(13, 0, 1)", "place(6, -7, 1)", "place(-6, 7, 1)", "place(-7, -6, 1)", "about(0, 4) = 1", "about(1, 4) = 1",
            "about(2, 4) = 1", "about(3, 4) = 1", "about(4, 4) = 0", "about(5, 4) = 0", "about(6, 4) = 0", "about(7, 4) = 0");
    }

    private static void aboutOrbits() {
        for (int domain = 0; domain <= 2; domain += 2) {
            new Run("8 one, four, eight").row("begin(%d, 12, 1)", domain).rows("place(0, 0, 1)", "place(0, -24, 1)", "place(24, 24, 1)",
                "place(24, -23, 1)", "about(0, 3) = 1", "about(1, 3) = 4", "about(2, 3) = 4", "about(3, 3) = 8");
        }
        new Run("8 one, three, six").rows("begin(1, 12, 1)", "place(4, 4, 1)", "place(-24, -24, 1)", "place(24, 24, 1)", "place(24, 23, 1)",
            "place(0, 12, 1)", "place(4, 5, 1)", "about(0, 3) = 1", "about(1, 3) = 3", "about(2, 3) = 3", "about(3, 3) = 6", "about(4, 3) = 3",
            "about(5, 3) = 6");
        new Run("8 the least Q").rows("begin(1, 1, 1)", "place(0, 0, 1)", "place(1, 1, 1)", "about(0, 3) = 3", "about(1, 3) = 3",
            "about(0, 4) = 1", "about(1, 4) = 0");
        filled("8 the first and the last place", 24).rows("about(0, 0) = -12", "about(23, 0) = 11", "about(23, 1) = 20", "about(23, 2) = 1",
            "about(23, 3) = 8", "about(23, 4) = 0");
    }

    /** All there is room for, as far out and as heavy as may be. */
    private static Run heaviest(String sentence, int w) {
        Run run = new Run(sentence);
        for (int i = 0; i < 24; i++) {
            run.row("place(24, %d, %d) = %d", i, w, i);
        }
        return run;
    }

    /** All there is room for, with lower numbers that have no divisor in common with the others. */
    private static Run crooked(String sentence, int domain) {
        Run run = new Run(sentence).row("begin(%d, 11, 9973)", domain);
        for (int i = 0; i < 24; i++) {
            run.row("place(24, %d, %d) = %d", i - 12, 10000 - i, i);
        }
        return run;
    }

    private static void sum() {
        heaviest("9 the greatest", 10000).fraction("sum(6, 0, %d)", 45864714240000L, 1);
        heaviest("9 the least", -10000).fraction("sum(6, 0, %d)", -45864714240000L, 1).fraction("sum(3, 3, %d)", -10530570240000L, 1)
            .fraction("sum(0, 6, %d)", -5636377240000L, 1).fraction("sum(0, 0, %d)", -240000, 1);
        new Run("9 the greatest lower number").rows("begin(0, 12, 10000)", "place(1, 1, 1)").fraction("sum(3, 3, %d)", 1, 29859840000L)
            .fraction("sum(0, 0, %d)", 1, 10000);
        new Run("9 below nought: the lower number is above it").rows("begin(2, 12, 10000)", "place(-1, 0, 1)")
            .fraction("sum(5, 0, %d)", -1, 2488320000L).fraction("sum(6, 0, %d)", 1, 29859840000L);
        new Run("9 nought is 0 by 1").rows("begin(1, 12, 10000)", "place(3, 0, 0)", "place(0, 3, 9)").fraction("sum(1, 0, %d)", 0, 1)
            .fraction("sum(3, 3, %d)", 0, 1).fraction("sum(0, 0, %d)", 9, 10000);
        new Run("9 what goes up against another is 0 by 1").rows("begin(0, 7, 9)", "place(3, 0, 5)", "place(-3, 0, 5)")
            .fraction("sum(1, 0, %d)", 0, 1).fraction("sum(5, 0, %d)", 0, 1).fraction("sum(2, 0, %d)", 10, 49);
        new Run("9 nought to the power nought is 1").rows("place(0, 0, 3)").fraction("sum(0, 0, %d)", 3, 1).fraction("sum(1, 0, %d)", 0, 1);
    }

    private static void allSums() {
        int[] twos = {1, 2, 4, 8, 16, 32, 64}, threes = {1, 3, 9, 27, 81, 243, 729}, fives = {1, 5, 25, 125, 625, 3125, 15625};
        for (int domain = 0; domain <= 2; domain++) {
            Run run = new Run("9 all powers").row("begin(%d, 5, 7)", domain).rows("place(2, 3, 11)");
            for (int n = 0; n <= 6; n++) {
                for (int a = 0; a <= n; a++) {
                    run.fraction("sum(" + a + ", " + (n - a) + ", %d)", 11 * twos[a] * threes[n - a], 7 * fives[n]);
                }
            }
        }
    }

    private static void error() {
        heaviest("10 the greatest", 10000).fraction("error(6, 0, %d)", 321052999679996L, 7);
        heaviest("10 the least", -10000).fraction("error(6, 0, %d)", -321052999680004L, 7);
        crooked("10 box", 0).fraction("error(6, 0, %d)", 320613117618956L, 123674444971L)
            .fraction("error(2, 4, %d)", 8620137479948L, 265016667795L).fraction("error(5, 1, %d)", -963573055488L, 17667777853L)
            .fraction("error(0, 6, %d)", 662713014300L, 123674444971L);
        crooked("10 triangle", 1).fraction("error(6, 0, %d)", 2565452642065091L, 989395559768L)
            .fraction("error(2, 4, %d)", 486667613338307L, 14840933396520L).fraction("error(5, 1, %d)", -323778214421821L, 5936373358608L)
            .fraction("error(0, 6, %d)", 5849405227843L, 989395559768L);
        crooked("10 diamond", 2).fraction("error(6, 0, %d)", 641349909682883L, 247348889942L)
            .fraction("error(2, 4, %d)", 121653652501187L, 3710233349130L).fraction("error(5, 1, %d)", -963573055488L, 17667777853L)
            .fraction("error(0, 6, %d)", 1449100473571L, 247348889942L);
        new Run("10 the greatest lower number").rows("begin(1, 11, 9973)", "place(1, 1, 1)")
            .fraction("error(3, 3, %d)", -17667776733L, 19787911195360L).fraction("error(0, 0, %d)", -9971, 19946);
        new Run("10 no error is 0 by 1").rows("begin(1, 3, 2)", "place(1, 1, 1)").fraction("error(0, 0, %d)", 0, 1)
            .fraction("error(1, 0, %d)", 0, 1).fraction("error(2, 0, %d)", -1, 36);
    }

    /** Weights by 1890 of the box with Q 1 that are right up to degree 5, of 13 places. */
    private static Map<List<Integer>, Integer> rightForFive() {
        Map<List<Integer>, Integer> weights = new LinkedHashMap<>();
        weights.put(List.of(0, 0), 2856);
        for (int sign = -1; sign <= 1; sign += 2) {
            weights.put(List.of(sign, 0), 1008);
            weights.put(List.of(0, sign), 1008);
            weights.put(List.of(2 * sign, 0), -42);
            weights.put(List.of(0, 2 * sign), -42);
            weights.put(List.of(sign, sign), 210);
            weights.put(List.of(sign, -sign), 210);
        }
        return weights;
    }

    private static int binomial(int n, int i) {
        return i == 0 || i == n ? 1 : binomial(n - 1, i - 1) + binomial(n - 1, i);
    }

    /** Differences of order a along x and b along y: they have a part only in sums of powers from x^a y^b up. */
    private static void addDifferences(Map<List<Integer>, Integer> weights, int times, int a, int b, int fromX, int fromY) {
        for (int i = 0; i <= a; i++) {
            for (int j = 0; j <= b; j++) {
                int sign = (a - i + b - j) % 2 == 0 ? 1 : -1;
                weights.merge(List.of(fromX + i, fromY + j), sign * times * binomial(a, i) * binomial(b, j), Integer::sum);
            }
        }
    }

    /** A rule that errs first at x^a y^b. How many times what errs ahead of it is to be mended was worked out outside of the program. */
    private static Map<List<Integer>, Integer> erringAt(int a, int b) {
        Map<List<Integer>, Integer> weights = rightForFive();
        if (a + b < 6) {
            addDifferences(weights, 1, a, b, -a / 2, -b / 2);
            return weights;
        }
        if (b > 0) {
            addDifferences(weights, 5, 6, 0, -3, 0);
        }
        if (b > 2) {
            addDifferences(weights, -7, 4, 2, -2, -1);
        }
        if (b > 4) {
            addDifferences(weights, -7, 2, 4, -1, -2);
        }
        switch (b) {
            case 1 -> addDifferences(weights, 1, 5, 1, -3, 0);
            case 3 -> addDifferences(weights, 1, 3, 3, -1, -1);
            // So often that one weight vanishes: else there would be 25 places.
            case 5 -> addDifferences(weights, -7, 1, 5, 0, -2);
            default -> { }
        }
        return weights;
    }

    private static Run rule(String sentence, Map<List<Integer>, Integer> weights) {
        Run run = new Run(sentence).rows("begin(0, 1, 1890)");
        int places = 0;
        for (Map.Entry<List<Integer>, Integer> one : weights.entrySet()) {
            if (one.getValue() != 0) {
                run.row("place(%d, %d, %d) = %d", one.getKey().get(0), one.getKey().get(1), one.getValue(), places++);
            }
        }
        return run;
    }

    private static void degreeAndFirst() {
        for (int sum = 0; sum <= 6; sum++) {
            for (int b = 0; b <= sum; b++) {
                int a = sum - b;
                rule("12 first at x^" + a + " y^" + b, erringAt(a, b)).row("first(0) = %d", a).row("first(1) = %d", b)
                    .row("degree() = %d", sum == 0 ? -9 : sum - 1);
            }
        }
        new Run("11 6 is the greatest that is told").rows("begin(0, 2, 945)", "place(0, 0, 1328)", "orbit(1, 0, -568)", "orbit(2, 0, 244)",
            "orbit(3, 0, -8)", "orbit(1, 1, 896)", "orbit(2, 2, 49)", "degree() = 6", "first(0) = -3", "first(1) = -3");
        Map<List<Integer>, Integer> both = erringAt(0, 5);
        addDifferences(both, 1, 5, 0, -2, 0);
        rule("12 of like ones with the greatest a", both).rows("first(0) = 5", "first(1) = 0", "degree() = 4");
        addDifferences(both, 1, 0, 1, 0, 0);
        addDifferences(both, 1, 2, 0, -1, 0);
        rule("12 the least a + b, though another has the greater a", both).rows("first(0) = 0", "first(1) = 1", "degree() = 0");
        new Run("11 weights of nought").rows("begin(1, 1, 1)", "orbit(0, 0, 0)", "degree() = -9", "first(0) = 0", "first(1) = 0");
    }

    private static void within() {
        new Run("13 the border of the box").rows("begin(0, 3, 1)", "orbit(3, 3, 1)", "orbit(3, 0, 1)", "is(0) = 1", "place(0, 4, 1)", "is(0) = 0",
            "drop(8)", "is(0) = 1", "place(-4, 0, 1)", "is(0) = 0");
        new Run("13 the border of the triangle").rows("begin(1, 3, 1)", "orbit(0, 0, 1)", "orbit(1, 2, 1)", "is(0) = 1", "place(2, 2, 1)", "is(0) = 0",
            "drop(9)", "is(0) = 1", "place(-1, 1, 1)", "is(0) = 0", "drop(9)", "place(1, -1, 1)", "is(0) = 0");
        new Run("13 the border of the diamond").rows("begin(2, 3, 1)", "orbit(3, 0, 1)", "orbit(1, 2, 1)", "is(0) = 1", "place(2, -2, 1)", "is(0) = 0",
            "drop(12)", "is(0) = 1", "place(0, -4, 0)", "is(0) = 0");
        new Run("13 the first of them is not").rows("place(2, 0, 1)", "place(0, 0, 1)", "is(0) = 0", "drop(0)", "is(0) = 1");
        filled("13 the last of all is not", 23).rows("begin(0, 12, 1)", "orbit(1, 2, 1)", "orbit(1, 3, 1)", "orbit(0, 1, 1)", "orbit(1, 1, 1)",
            "drop(0)", "place(13, 0, 1) = 23", "is(0) = 0", "drop(23)", "is(0) = 1");
    }

    private static void above() {
        new Run("13 1 is above, 0 and -1 are not").rows("place(0, 0, 1)", "is(1) = 1", "place(0, 0, -1)", "is(1) = 0", "place(0, 0, -1)", "is(1) = 0",
            "place(0, 0, 2)", "is(1) = 1", "place(0, 1, 10000)", "is(1) = 1", "place(1, 1, 0)", "is(1) = 0", "drop(2)", "is(1) = 1",
            "place(9, 9, -10000)", "is(1) = 0");
        filled("13 the last of all is not above", 24).rows("is(1) = 1", "place(11, 20, -1)", "is(1) = 0", "place(11, 20, 1)", "place(-12, 20, -2)",
            "is(1) = 0");
    }

    private static void even() {
        new Run("13 no places are even").rows("is(2) = 1", "begin(1, 1, 1)", "is(2) = 1", "begin(2, 1, 1)", "is(2) = 1");
        new Run("13 all there is room for, even").rows("begin(2, 9, 9)", "orbit(1, 2, -5)", "orbit(1, 3, 0)", "orbit(24, 23, 10000)", "told(0) = 24",
            "is(2) = 1", "place(-24, -23, -1)", "is(2) = 0", "place(-24, -23, 1)", "is(2) = 1", "drop(23)", "is(2) = 0");
        for (int p = 0; p < 8; p++) {
            new Run("13 just one of eight lacks").rows("orbit(1, 2, 3)", "is(2) = 1").row("drop(%d)", p).rows("is(2) = 0");
            new Run("13 just one of eight has another weight").rows("orbit(1, 2, 3)").row("drop(%d)", p).rows("orbit(1, 2, 0)", "is(2) = 0");
        }
        new Run("13 a place that cannot come lacks").rows("begin(1, 1, 1)", "place(-24, -24, 1)", "is(2) = 0", "begin(1, 12, 1)",
            "place(24, 24, 1)", "is(2) = 0");
        new Run("13 one of weight nought lacks, too").rows("place(1, 0, 0)", "place(-1, 0, 0)", "place(0, 1, 0)", "is(2) = 0", "place(0, -1, 0)",
            "is(2) = 1");
        new Run("13 the same places, turned otherwise").rows("begin(1, 2, 1)", "place(0, 0, 1)", "place(2, 0, 1)", "place(0, 2, 1)", "is(2) = 1",
            "begin(0, 2, 1)", "place(0, 0, 1)", "place(2, 0, 1)", "place(0, 2, 1)", "is(2) = 0");
    }

    private static void least() {
        new Run("14 from 0 to 6").rows("least(0) = 1", "least(1) = 1", "least(2) = 3", "least(3) = 3", "least(4) = 6", "least(5) = 6",
            "least(6) = 10", "least(7) = -2", "least(-1) = -2");
    }

    private static void keepAndLoad() {
        filled("15 all there is room for, all six", 24).rows("keep(0) = 24", "keep(1) = 24", "keep(2) = 24", "keep(3) = 24", "keep(4) = 24",
            "keep(5) = 24", "told(4) = 6", "keep(6) = -1", "keep(5) = 24", "told(4) = 6", "begin(2, 12, 10000)", "keep(0) = 0", "told(4) = 6",
            "load(5) = 24", "told(1) = 0", "told(2) = 5", "about(0, 0) = -12", "about(23, 0) = 11", "about(23, 1) = 20", "about(23, 2) = 1",
            "load(0) = 0", "told(1) = 2", "told(2) = 12", "told(3) = 10000", "about(0, 0) = -1", "load(4) = 24", "load(6) = -1", "told(0) = 24");
        new Run("15 a rule without places is kept, too").rows("load(0) = -1", "keep(0) = 0", "told(4) = 1", "place(1, 1, 1)", "load(0) = 0",
            "told(0) = 0", "told(4) = 1");
        new Run("15 a copy: later changes are none of it").rows("place(1, 1, 5)", "place(1, 0, 6)", "keep(3) = 2", "told(0) = 2",
            "about(1, 2) = 6", "keep(4) = 2", "place(1, 1, 1)",
            "drop(1)", "load(3) = 2", "about(0, 2) = 5", "about(1, 2) = 6", "drop(0)", "place(1, 0, -6)", "load(3) = 2", "about(0, 2) = 5",
            "about(1, 2) = 6", "load(4) = 2", "about(0, 2) = 5");
        new Run("16 all but the rule stays").rows("keep(1)", "term(0, 5)", "place(0, 0, 1)", "tell(0)", "put(0, 0, 0) = -11", "load(1) = 0",
            "trace() = 1", "fault() = 1", "term(0, 5) = 5");
    }

    private static void checkPair(int domain, int d, int q, int[] due) {
        Run run = new Run("17 domain " + domain + ", pair(" + d + ", " + q + ")").row("begin(%d, 7, 77)", domain).rows("place(3, -3, 3)");
        if (due == null) {
            run.row("pair(%d, %d) = -9", d, q).rows("told(0) = 1", "told(2) = 7", "told(3) = 77", "about(0, 2) = 3");
            return;
        }
        int second = due[0] == 6 ? 3 : due[0] - 1;
        run.row("pair(%d, %d) = %d", d, q, due[0]).row("told(0) = %d", due[0]).row("told(1) = %d", domain).row("told(2) = %d", q);
        run.row("told(3) = %d", due[1]).row("about(0, 0) = %d", due[2]).row("about(0, 1) = %d", due[3]);
        run.row("about(%d, 0) = %d", second, due[5]).row("about(%d, 1) = %d", second, due[6]).rows("is(0) = 1", "is(1) = 1", "is(2) = 1");
        for (int p = 0; p < due[0]; p++) {
            run.row("about(%d, 2) = %d", p, p < second ? due[4] : due[7]);
        }
    }

    /** All ninety: how many places, W, the first place of each orbit with its w; found outside of the program, too. */
    private static void pairs() {
        int[][] ofTriangle = {null, null, null, {4, 24, 0, 0, 1, 1, 1, 9}, {6, 30, 0, 0, 1, 1, 1, 4}, {6, 168, 0, 0, 3, 1, 1, 25},
            {4, 24, 0, 0, 1, 2, 2, 9}};
        for (int d = 1; d <= 5; d++) {
            for (int q = 1; q <= 6; q++) {
                checkPair(0, d, q, d > 3 ? null : new int[] {5, 3, -q, -q, 1, 0, 0, 8});
                checkPair(1, d, q, d > 2 ? null : ofTriangle[q]);
                checkPair(2, d, q, d > 3 ? null : new int[] {5, 6, -q, 0, 1, 0, 0, 8});
            }
        }
    }

    private static void pairTakesOver() {
        new Run("17 one pair after another").rows("pair(1, 6) = 5", "told(3) = 3", "begin(1, 1, 1)", "pair(2, 3) = 4", "told(3) = 24",
            "about(3, 2) = 9", "pair(1, 2) = -9", "pair(2, 5) = 6", "told(3) = 168", "begin(2, 1, 1)", "pair(3, 1) = 5", "about(0, 0) = -1",
            "about(0, 1) = 0", "begin(0, 1, 1)", "pair(4, 6) = -9", "pair(3, 1) = 5", "about(0, 0) = -1", "about(0, 1) = -1", "told(3) = 3",
            "begin(1, 1, 1)", "pair(1, 1) = -9", "told(0) = 0", "pair(1, 4) = 6", "told(3) = 30", "begin(2, 1, 1)", "pair(1, 2) = 5",
            "about(0, 0) = -2");
        filled("17 in place of all places", 24).rows("keep(2)", "pair(3, 6) = 5", "told(0) = 5", "told(2) = 6", "told(3) = 3", "about(4, 2) = 8",
            "about(5, 2) = -1", "place(-12, 20, 1) = 5", "load(2) = 24", "about(4, 2) = 1");
        new Run("17 all but the rule stays").rows("term(0, 5)", "place(0, 0, 1)", "tell(0)", "put(0, 0, 0) = -11", "pair(1, 1) = 5", "trace() = 1",
            "fault() = 1", "term(0, 5) = 5", "told(4) = 0");
    }

    private static void term() {
        Run run = new Run("18 least and greatest c, for all terms");
        for (int t = 0; t < 15; t++) {
            run.row("term(%d, 1000) = 0", t).row("term(%d, -1000) = 1000", t).row("term(%d, 1001) = LOST", t).row("term(%d, -1001) = LOST", t);
        }
        for (int t = 0; t < 15; t++) {
            run.row("term(%d, 0) = -1000", t);
        }
    }

    private static void termsAreNumbered() {
        int[] values = {1, 2, 3, 4, 6, 9, 8, 12, 18, 27, 16, 24, 36, 54, 81};
        Run run = new Run("18 by a + b, then by b").rows("place(2, 3, 1)");
        for (int t = 0; t < 15; t++) {
            run.row("term(%d, -1) = 0", t).fraction("byRule(1, %d)", -values[t], 1).row("term(%d, 0) = -1", t);
        }
        run.fraction("byRule(1, %d)", 0, 1);
    }

    private static Run allTerms(Run run, int c) {
        for (int t = 0; t < 15; t++) {
            run.row("term(%d, %d)", t, c);
        }
        return run;
    }

    private static void whole() {
        int[] upper = {78400, 11375, 26600};
        for (int domain = 0; domain <= 2; domain++) {
            Run run = new Run("19 greatest and least of all terms").row("begin(%d, 1, 1)", domain);
            allTerms(run, 1000).fraction("whole(%d)", upper[domain], 9);
            allTerms(run, -1000).fraction("whole(%d)", -upper[domain], 9);
            allTerms(run, 0).fraction("whole(%d)", 0, 1);
        }
        new Run("19 odd terms have no part").rows("term(1, 1000)", "term(4, 1000)", "term(11, -1000)").fraction("whole(%d)", 0, 1);
        new Run("19 terms that make up for one another").rows("begin(1, 1, 1)", "term(1, 1000)", "term(2, -1000)").fraction("whole(%d)", 0, 1);
        new Run("19 the first and the last term").rows("term(0, -1)").fraction("whole(%d)", -4, 1).rows("term(0, 0)", "term(14, -1)")
            .fraction("whole(%d)", -4, 5);
    }

    private static void byRule() {
        allTerms(heaviest("20 the greatest", 10000), 1000).fraction("byRule(1, %d)", 182244920000000L, 1)
            .fraction("byRule(2, %d)", 11968560000000L, 1).fraction("byRule(3, %d)", 607859800000000L, 243);
        allTerms(heaviest("20 the least", 10000), -1000).fraction("byRule(1, %d)", -182244920000000L, 1)
            .fraction("byRule(2, %d)", -11968560000000L, 1).fraction("byRule(3, %d)", -607859800000000L, 243);
        allTerms(new Run("20 great lower numbers").rows("begin(0, 12, 10000)", "place(1, -1, 1)"), 1).fraction("byRule(1, %d)", 20881, 207360000)
            .fraction("byRule(2, %d)", 561601, 3317760000L).fraction("byRule(3, %d)", 3269137, 16796160000L);
        Run run = crooked("20 lower numbers without a divisor in common", 0);
        for (int t = 0; t < 15; t++) {
            run.row("term(%d, %d)", t, 1000 - t);
        }
        run.fraction("byRule(1, %d)", 151242597535372L, 146014693).fraction("byRule(2, %d)", 71123478431965L, 292029386)
            .fraction("byRule(3, %d)", 5035704305982092L, 35481570399L);
        allTerms(new Run("20 far corners").rows("begin(0, 12, 10000)", "place(24, 24, 10000)", "place(-24, -24, 10000)"), 1000)
            .fraction("byRule(1, %d)", 186000, 1).fraction("byRule(2, %d)", 29375, 1).fraction("byRule(3, %d)", 10058000, 729);
        allTerms(new Run("20 no places"), 1000).fraction("byRule(1, %d)", 0, 1).fraction("byRule(3, %d)", 0, 1);
        for (int domain = 1; domain <= 2; domain++) {
            new Run("20 1 is no cut").row("begin(%d, 2, 3)", domain).rows("place(1, 0, -4)", "term(1, 3)").fraction("byRule(1, %d)", -2, 1)
                .rows("byRule(2, 0) = LOST", "byRule(3, 0) = LOST", "begin(0, 2, 3)", "place(1, 0, -4)").fraction("byRule(1, %d)", -2, 1)
                .fraction("byRule(2, %d)", -1, 1);
        }
    }

    private static void sheet() {
        for (int k = 0; k < 4; k++) {
            for (int lane = 0; lane < 3; lane++) {
                new Run("21 no cells").row("sheet(%d, %d, 0) = 1", k, lane).rows("fault() = 0").row("put(%d, 0, 1) = -13", k)
                    .row("at(%d, 0, %d) = LOST", k, lane).rows("fault() = 3").row("lose(%d) = 1", k);
                new Run("21 72 cells").row("sheet(%d, %d, 72) = 1", k, lane).row("at(%d, 0, %d) = 0", k, lane).row("at(%d, 71, %d) = 0", k, lane)
                    .row("put(%d, 71, 9) = 1", k).row("put(%d, 72, 9) = -13", k).row("at(%d, 71, %d) = 9", k, lane)
                    .row("sheet(%d, %d, 73) = -2", k, lane).row("at(%d, 71, %d) = 9", k, lane).row("at(%d, 72, %d) = LOST", k, lane);
            }
        }
        Run run = new Run("21 a new row is of noughts").rows("sheet(1, 2, 72)");
        for (int i = 0; i < 72; i++) {
            run.row("put(1, %d, -1) = 1", i);
        }
        run.rows("sheet(1, 2, 3) = 1", "at(1, 2, 2) = 0", "at(1, 3, 2) = LOST", "sheet(1, 2, 72) = 1");
        for (int i = 0; i < 72; i++) {
            run.row("at(1, %d, 2) = 0", i);
        }
        new Run("21 another lane, and the other sheets").rows("sheet(0, 0, 1)", "put(0, 0, 1)", "sheet(1, 1, 1)", "put(1, 0, 2)", "sheet(2, 2, 1)",
            "put(2, 0, 3)", "sheet(3, 2, 1)", "put(3, 0, 4)", "sheet(1, 2, 2) = 1", "at(1, 0, 1) = LOST", "fault() = 2", "at(1, 0, 2) = 0",
            "at(0, 0, 0) = 1", "at(2, 0, 2) = 3", "at(3, 0, 2) = 4");
    }

    private static void lose() {
        for (int k = 0; k < 4; k++) {
            new Run("22 a row, then nothing").row("lose(%d) = 0", k).row("sheet(%d, 0, 72)", k).row("lose(%d) = 1", k).row("lose(%d) = 0", k)
                .row("put(%d, 0, 1) = -11", k).row("at(%d, 0, 2) = LOST", k).rows("fault() = 1").row("places(%d, 1, 0, 0) = -11", k);
        }
        new Run("22 a row without cells is something").rows("sheet(3, 2, 0)", "lose(3) = 1", "lose(3) = 0");
        new Run("22 the other sheets stay").rows("sheet(0, 1, 1)", "sheet(1, 1, 1)", "put(0, 0, 5)", "lose(1) = 1", "at(0, 0, 1) = 5", "lose(0) = 1");
        new Run("22 what it had does not come again").rows("sheet(0, 2, 2)", "put(0, 1, 5)", "lose(0)", "sheet(0, 2, 2)", "at(0, 1, 2) = 0");
        new Run("22 names no fault").rows("sheet(1, 0, 0)", "put(0, 0, 0) = -11", "lose(0) = 0", "fault() = 1", "lose(4) = -1", "fault() = 1",
            "lose(1) = 1", "fault() = 1");
    }

    private static void cut(int lane, String v, String due) {
        new Run("23 cut to lane " + lane).row("sheet(2, %d, 3)", lane).row("put(2, 1, %s) = 1", v).row("at(2, 1, %d) = %s", lane, due)
            .row("at(2, 0, %d) = 0", lane).row("at(2, 2, %d) = 0", lane);
    }

    private static void put() {
        String[][] bytes = {{"127", "127"}, {"128", "-128"}, {"-128", "-128"}, {"-129", "127"}, {"255", "-1"}, {"256", "0"}, {"-256", "0"},
            {"10000", "16"}, {"TOP", "-1"}, {"BOTTOM", "0"}};
        String[][] shorts = {{"32767", "32767"}, {"32768", "-32768"}, {"-32768", "-32768"}, {"-32769", "32767"}, {"65535", "-1"}, {"65536", "0"},
            {"-65536", "0"}, {"10000", "10000"}, {"TOP", "-1"}, {"BOTTOM", "0"}};
        String[][] ints = {{"32768", "32768"}, {"65536", "65536"}, {"TOP", "2147483647"}, {"BOTTOM", "-2147483648"}, {"-1", "-1"}};
        String[][][] lanes = {bytes, shorts, ints};
        for (int lane = 0; lane < 3; lane++) {
            for (String[] pair : lanes[lane]) {
                cut(lane, pair[0], pair[1]);
            }
        }
        new Run("23 the first and the last cell").rows("sheet(0, 0, 2)", "put(0, 0, 5) = 1", "put(0, 1, 6) = 1", "put(0, 2, 7) = -13",
            "put(0, -1, 8) = -13", "at(0, 0, 0) = 5", "at(0, 1, 0) = 6", "put(0, 0, 9) = 1", "at(0, 0, 0) = 9", "at(0, 1, 0) = 6");
    }

    private static void at() {
        new Run("24 the first and the last cell").rows("sheet(0, 2, 72)", "put(0, 0, TOP)", "put(0, 71, BOTTOM)", "at(0, 0, 2) = 2147483647",
            "at(0, 71, 2) = -2147483648", "fault() = 0", "at(0, 72, 2) = LOST", "fault() = 3", "at(0, -1, 2) = LOST", "fault() = 3",
            "at(0, 0, 2) = 2147483647", "fault() = 0");
        new Run("24 a row without cells of another lane").rows("sheet(0, 2, 0)", "at(0, 0, 1) = LOST", "fault() = 2", "at(0, 0, 2) = LOST", "fault() = 3");
    }

    private static void tell() {
        new Run("25 the greatest and the least w, alone").rows("place(0, 0, 10000)", "tell(0) = 10000", "trace() = 1", "place(0, 0, -10000)",
            "tell(0) = 0", "place(0, 0, -10000)", "tell(0) = -10000", "trace() = 993");
        new Run("25 the greatest and the least w, of a greater orbit").rows("begin(2, 12, 1)", "place(1, 2, 10000)", "place(0, 12, -10000)",
            "tell(0) = 10008", "trace() = 63", "tell(1) = -9996", "trace() = 60606");
        new Run("25 the greatest and the least w, not in the domain").rows("begin(1, 12, 1)", "place(1, 12, 10000)", "place(-1, 0, -10000)",
            "place(24, 24, 0)", "tell(0) = -10000", "trace() = 94", "tell(1) = 10000", "trace() = 90428", "tell(2) = 0");
        new Run("25 the border is in the domain").rows("begin(1, 3, 1)", "place(0, 0, 1)", "place(3, 0, 1)", "place(1, 2, 1)", "place(1, 1, 1)",
            "tell(0) = 4", "tell(1) = 4", "tell(2) = 7", "tell(3) = 1");
        filled("25 the last of all", 24).rows("tell(23) = -1", "tell(24) = -1", "trace() = 94");
    }

    private static void count() {
        filled("26 the last of all", 23).rows("place(5, 5, 1) = 23", "count(23) = 23", "trace() = 4", "count(0) = 77", "trace() = 129",
            "count(24) = -1", "trace() = 129", "drop(0)", "count(22) = 22", "trace() = 4003");
        new Run("26 the border, and just behind it").rows("begin(2, 4, 1)", "place(1, 3, 1)", "place(1, -4, 1)", "place(0, 0, 1)", "count(0) = 0",
            "count(1) = 77", "count(2) = 2");
    }

    private static void as() {
        new Run("27 the border, and just behind it").rows("begin(1, 4, 1)", "place(1, 3, 1)", "place(2, 3, 1)", "as(0, 1) = 1", "as(0, 3) = 1",
            "as(0, 2) = -12", "as(0, 0) = -12", "as(1, 2) = 1", "as(1, 0) = -12", "as(1, 1) = -12", "as(1, 3) = -12", "fault() = 2");
        new Run("27 alone").rows("begin(1, 3, 1)", "place(1, 1, 1)", "as(0, 0) = 1", "as(0, 1) = -12", "as(0, 2) = -12", "as(0, 3) = 1", "fault() = 0");
        new Run("27 leaves no trace").rows("place(0, 0, 1)", "as(0, 0) = 1", "as(0, 1) = -12", "trace() = 0");
        filled("27 the last of all", 24).rows("as(23, 2) = 1", "as(24, 2) = -1", "fault() = 0", "as(23, 3) = -12", "as(24, 4) = -1", "fault() = 0");
    }

    private static void trace() {
        new Run("28 wraps below nought, and above it again").rows("place(0, 0, 1)", "count(0)", "trace() = 4", "count(0)", "trace() = 128",
            "count(0)", "count(0)", "count(0)", "count(0)", "trace() = 118333824", "count(0)", "trace() = -626618748", "count(0)",
            "trace() = 2049655296", "count(0)", "trace() = -885195260");
        String[] allBodies = {"tell(0)", "tell(1)", "tell(2)", "count(0)", "count(2)"};
        new Run("28 all bodies: 1, 2 1, 3 1, 4, 5").rows("place(0, 0, 1)", "place(0, 1, 1)", "place(2, 0, 1)").rows(allBodies)
            .rows("trace() = 945775967").rows(allBodies).rows("trace() = 174327584").rows(allBodies).rows("trace() = -1713694145");
    }

    private static void fault() {
        new Run("29 each call that names one, and comes to none").rows("sheet(0, 0, 3)", "place(0, 0, 1)", "put(1, 0, 0) = -11", "fault() = 1",
            "put(0, 0, 0) = 1", "fault() = 0", "put(0, 3, 0) = -13", "fault() = 3", "at(0, 0, 0) = 0", "fault() = 0", "at(0, 0, 1) = LOST",
            "fault() = 2", "as(0, 0) = 1", "fault() = 0", "as(0, 2) = -12", "fault() = 2", "places(0, 0, 0, 1) = 1", "fault() = 0",
            "places(0, 0, 0, -1) = -14", "fault() = 4", "sheet(0, 0, 3) = 1", "fault() = 0", "sheet(0, 0, -1) = -14", "fault() = 4");
        new Run("29 it stays by calls that name none").rows("sheet(0, 0, -1) = -14", "begin(0, 1, 1)", "place(0, 0, 1)", "orbit(1, 1, 1)", "drop(1)",
            "about(0, 0)", "sum(0, 0, 0)", "error(0, 0, 0)", "moment(0, 0, 0)", "degree()", "first(0)", "is(0)", "least(1)", "keep(1)",
            "load(1)", "pair(1, 1)", "term(1, 1)", "whole(0)", "byRule(1, 1)", "lose(1)", "tell(0)", "count(0)", "trace()", "told(0)",
            "fault() = 4", "fault() = 4");
    }

    private static void told() {
        filled("30 the greatest", 24).rows("told(0) = 24", "told(1) = 0", "told(2) = 5", "told(3) = 1", "told(4) = 0", "told(5) = -2", "told(-1) = -2");
        new Run("30 kept rules, none twice").rows("keep(5)", "keep(0)", "keep(5)", "told(4) = 2", "keep(1)", "keep(2)", "keep(3)", "keep(4)",
            "told(4) = 6");
    }
}
