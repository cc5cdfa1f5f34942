import java.util.ArrayList;
import java.util.Arrays;
import java.util.List;

/**
 * Each refusal and fault of each call, the numbers just outside of what is allowed, and which comes first where two
 * would fit. Each is tried on one of two like objects: afterwards both must tell the same, but for fault().
 */
public final class RefusalTests {
    /** What fault() tells after a call that names no fault: what it told ahead of it. */
    private static final int STAYS = -1;
    private static final int NO_FAULT = 0, NULL = 1, CAST = 2, INDEX = 3, SIZE = 4;

    /** Something of all that an object can hold, so that a change of any of it would be seen. */
    private static final String[] FURNITURE = {
        "begin(1, 4, 9)", "orbit(1, 1, 5)", "keep(1)", "begin(2, 5, 3)", "place(4, 1, -2)", "keep(4)",
        "term(0, 7)", "term(1, -1000)", "term(3, 2)", "term(8, 1)", "term(14, 1000)",
        "sheet(0, 0, 6)", "put(0, 0, 1)", "put(0, 1, 2)", "put(0, 2, 3)", "put(0, 3, 25)", "put(0, 5, 4)",
        "sheet(1, 1, 9)", "put(1, 0, 2)", "put(1, 1, 2)", "put(1, 2, 10000)", "put(1, 3, 2)", "put(1, 4, 2)",
        "put(1, 5, 1)", "put(1, 8, -10001)",
        "sheet(2, 2, 0)"
    };
    private static final String[] FEW = {
        "begin(0, 3, 7)", "place(0, 0, 9)", "place(1, 2, -5)", "place(4, 0, 9999)", "place(0, 4, -9999)"
    };
    private static final String[] TRIANGLE = {"begin(1, 6, 11)", "place(2, 2, 4)", "place(-1, 3, 2)"};
    private static final String[] DIAMOND = {"begin(2, 2, 5)", "place(0, 0, 4)", "place(2, 1, 2)", "place(1, 0, 3)"};
    /** Solved for outside of the program: right for all x^a y^b with a + b up to 6. */
    private static final String[] RIGHT = {
        "begin(0, 2, 945)", "place(0, 0, 1328)", "orbit(1, 0, -568)", "orbit(2, 0, 244)", "orbit(3, 0, -8)",
        "orbit(1, 1, 896)", "orbit(2, 2, 49)"
    };
    private static final String[] NOTHING = {"begin(1, 2, 3)"};

    public static void main(String[] args) {
        begin();
        powers();
        place();
        orbit();
        places();
        placesOrder();
        numbersOfPlaces();
        whats();
        keptRules();
        pair();
        polynomial();
        sheet();
        cells();
        as();
        answersChangeNothing();
        Run.end();
    }

    /** The rule with places (-12 .. 11, 20) up to how many are wanted. */
    private static String[] filled(int many) {
        List<String> rows = new ArrayList<>(List.of("begin(0, 5, 1)"));
        for (int i = 0; i < many; i++) {
            rows.add("place(" + (i - 12) + ", 20, " + (i - 3) + ")");
        }
        return rows.toArray(new String[0]);
    }

    /** Two calls that leave unlike faults, one to be tried ahead of each refusal. */
    private static final String[] EARLIER = {"put(3, 0, 0) = -11", "sheet(3, 0, -1) = -14"};

    private static Run furnished(String sentence, String[] rule, String earlier) {
        Run run = new Run(sentence).rows(FURNITURE).rows(rule);
        run.rows("count(0)", earlier);
        return run;
    }

    /** A call that must answer as its row says, and leave all as it was but for fault(). */
    private static void refused(String sentence, String[] rule, String row, int fault) {
        for (String earlier : EARLIER) {
            Run tried = furnished(sentence, rule, earlier);
            Run other = furnished(sentence, rule, earlier);
            tried.rows(row);
            long due = fault == STAYS ? other.call("fault()") : fault;
            tried.rows("fault() = " + due);
            if (!tried.all().equals(other.all())) {
                Run.complain(sentence + ": " + row + " has changed something");
            }
        }
    }

    private static void refuse(String sentence, String[] rule, String... rows) {
        for (String row : rows) {
            refused(sentence, rule, row, STAYS);
        }
    }

    /** The same for the calls that name faults: a refusal is none. */
    private static void refuseNaming(String sentence, String[] rule, String... rows) {
        for (String row : rows) {
            refused(sentence, rule, row, NO_FAULT);
        }
    }

    private static void fail(int fault, String sentence, String[] rule, String... rows) {
        for (String row : rows) {
            refused(sentence, rule, row, fault);
        }
    }

    private static void begin() {
        refuse("2 domain", FEW, "begin(-1, 1, 1) = -2", "begin(3, 1, 1) = -2", "begin(TOP, 1, 1) = -2", "begin(BOTTOM, 1, 1) = -2");
        refuse("2 q", FEW, "begin(0, 0, 1) = -2", "begin(0, 13, 1) = -2", "begin(1, -1, 1) = -2", "begin(2, TOP, 1) = -2",
            "begin(2, BOTTOM, 1) = -2");
        refuse("2 w", FEW, "begin(0, 1, 0) = -2", "begin(0, 1, 10001) = -2", "begin(1, 1, -1) = -2", "begin(2, 1, TOP) = -2",
            "begin(2, 1, BOTTOM) = -2");
    }

    private static void powers() {
        String[] wrong = {
            "-1, 0, 0", "0, -1, 0", "7, 0, 0", "0, 7, 0", "6, 1, 0", "1, 6, 1", "3, 4, 1", "4, 3, 0", "-1, 7, 0", "7, -1, 1",
            "TOP, TOP, 0", "TOP, 1, 0", "1, TOP, 1", "BOTTOM, BOTTOM, 0", "BOTTOM, 0, 1", "TOP, BOTTOM, 0",
            "0, 0, -1", "0, 0, 2", "6, 0, TOP", "0, 6, BOTTOM"
        };
        for (String numbers : wrong) {
            refuse("3 a, b, which", FEW, "moment(" + numbers + ") = LOST");
            refuse("9 a, b, which", FEW, "sum(" + numbers + ") = LOST");
            refuse("10 a, b, which", FEW, "error(" + numbers + ") = LOST");
        }
    }

    private static void place() {
        refuse("4 x", FEW, "place(25, 0, 1) = -2", "place(-25, 0, 1) = -2", "place(TOP, 0, 1) = -2", "place(BOTTOM, 0, 1) = -2");
        refuse("4 y", FEW, "place(0, 25, 1) = -2", "place(0, -25, 1) = -2", "place(0, TOP, 1) = -2", "place(0, BOTTOM, 1) = -2");
        refuse("4 w", FEW, "place(9, 9, 10001) = -2", "place(9, 9, -10001) = -2", "place(9, 9, TOP) = -2", "place(9, 9, BOTTOM) = -2");
        refuse("4 what w would be", FEW, "place(4, 0, 2) = -2", "place(0, 4, -2) = -2", "place(4, 0, 10000) = -2");
        refuse("4 w itself, though what it would be is not", FEW, "place(0, 4, 10001) = -2", "place(4, 0, -10001) = -2",
            "place(0, 4, 19999) = -2");
        refuse("4 full", filled(24), "place(0, 0, 1) = -4", "place(20, -12, 0) = -4");
        refuse("4 outside ahead of full", filled(24), "place(25, 0, 1) = -2", "place(0, -25, 1) = -2", "place(0, 0, 10001) = -2");
        refuse("4 what w would be, when full", filled(24), "place(-12, 20, -9998) = -2");
    }

    private static void orbit() {
        refuse("5 x, y, w", FEW, "orbit(25, 0, 1) = -2", "orbit(-25, 0, 1) = -2", "orbit(0, 25, 1) = -2", "orbit(0, -25, 1) = -2",
            "orbit(9, 9, 10001) = -2", "orbit(9, 9, -10001) = -2", "orbit(TOP, TOP, TOP) = -2", "orbit(BOTTOM, BOTTOM, BOTTOM) = -2");
        refuse("5 one of them is outside", TRIANGLE, "orbit(-10, -9, 1) = -2", "orbit(24, 7, 1) = -2", "orbit(-24, -24, 1) = -2",
            "orbit(24, 24, 1) = -2", "orbit(0, -19, 1) = -2");
        refuse("5 the w of one of them would be outside", FEW, "orbit(4, 0, 2) = -2", "orbit(0, 4, -2) = -2", "orbit(-4, 0, 10000) = -2");
        refuse("5 not all have room", filled(24), "orbit(0, 0, 1) = -4", "orbit(1, 2, 1) = -4");
        refuse("5 not all have room", filled(17), "orbit(1, 2, 1) = -4");
        refuse("5 not all have room", filled(21), "orbit(0, 3, 1) = -4");
        refuse("5 not all have room, though some are there", filled(21), "orbit(1, 20, 1) = -4");
        refuse("5 not all have room, though some are there", filled(22), "orbit(0, 20, 1) = -4");
        refuse("5 outside ahead of full", filled(24), "orbit(25, 1, 1) = -2", "orbit(1, 2, 10001) = -2");
        refuse("5 what a w would be ahead of full", filled(24), "orbit(20, -12, -9998) = -2");
        String[] fullTriangle = filled(24);
        fullTriangle[0] = "begin(1, 5, 1)";
        refuse("5 one of them is outside, ahead of full", fullTriangle, "orbit(-10, -10, 1) = -2");
        refuse("5 full, in the triangle", fullTriangle, "orbit(0, 0, 1) = -4");
    }

    private static void places() {
        refuseNaming("6 unknown", FEW, "places(-1, 0, 0, 1) = -1", "places(4, 0, 0, 1) = -1", "places(TOP, 0, 0, 1) = -1",
            "places(BOTTOM, 0, 0, 1) = -1");
        refuseNaming("6 lane", FEW, "places(0, -1, 0, 1) = -2", "places(0, 3, 0, 1) = -2", "places(0, TOP, 0, 1) = -2",
            "places(0, BOTTOM, 0, 1) = -2");
        fail(CAST, "6 another lane", FEW, "places(0, 1, 0, 1) = -12", "places(0, 2, 0, 1) = -12", "places(1, 0, 0, 1) = -12",
            "places(1, 2, 0, 1) = -12", "places(2, 0, 0, 0) = -12", "places(2, 1, 0, 0) = -12");
        fail(NULL, "6 nothing is no cast", FEW, "places(3, 0, 0, 1) = -11", "places(3, 1, 0, 0) = -11", "places(3, 2, 0, 1) = -11");
        fail(SIZE, "6 n is below 0", FEW, "places(0, 0, 0, -1) = -14", "places(2, 2, 0, BOTTOM) = -14");
        fail(INDEX, "6 not all cells are there", FEW, "places(0, 0, -1, 1) = -13", "places(0, 0, 4, 1) = -13", "places(0, 0, 1, 2) = -13",
            "places(0, 0, 0, 3) = -13", "places(2, 2, 0, 1) = -13", "places(0, 0, -3, 2) = -13", "places(0, 0, BOTTOM, 1) = -13");
        fail(INDEX, "6 numbers of cells that would wrap", FEW, "places(0, 0, TOP, 1) = -13", "places(0, 0, 0, TOP) = -13",
            "places(0, 0, 0, 1431655766) = -13", "places(0, 0, 0, 715827883) = -13", "places(0, 0, TOP, TOP) = -13",
            "places(0, 0, BOTTOM, 715827883) = -13", "places(0, 0, 3, 1431655765) = -13");
        refuseNaming("6 outside: then none comes", FEW, "places(0, 0, 0, 2) = -2", "places(0, 0, 3, 1) = -2", "places(1, 1, 6, 1) = -2",
            "places(1, 1, 0, 3) = -2");
        refuseNaming("6 what w would be by both of two cells for one place", FEW, "places(1, 1, 0, 2) = -2");
        refuseNaming("6 full", filled(24), "places(0, 0, 0, 1) = -4");
    }

    private static void placesOrder() {
        refuseNaming("6 unknown ahead of lane", FEW, "places(4, 3, -1, -1) = -1", "places(-1, -1, 0, 0) = -1");
        refuseNaming("6 lane ahead of the faults", FEW, "places(3, 3, -1, -1) = -2", "places(0, -1, -1, -1) = -2");
        fail(CAST, "6 cast ahead of size, index", FEW, "places(0, 1, 0, -1) = -12", "places(0, 2, -1, 1) = -12");
        fail(NULL, "6 null ahead of size, index", FEW, "places(3, 0, 0, -1) = -11", "places(3, 0, -1, 1) = -11");
        fail(SIZE, "6 size ahead of index", FEW, "places(0, 0, -1, -1) = -14", "places(0, 0, TOP, -1) = -14");
        fail(INDEX, "6 index ahead of outside", FEW, "places(0, 0, 3, 2) = -13");
        fail(INDEX, "6 index ahead of full", filled(24), "places(0, 0, 0, 3) = -13");
        fail(CAST, "6 cast ahead of full", filled(24), "places(0, 1, 0, 1) = -12");
        String[] almost = Arrays.copyOf(filled(23), 33);
        String[] cells = {"sheet(2, 2, 9)", "put(2, 0, 1)", "put(2, 3, 2)", "put(2, 6, 25)", "put(2, 2, 7)", "put(2, 5, 7)",
            "put(2, 8, 7)", "put(2, 1, 1)", "put(2, 4, 1)"};
        System.arraycopy(cells, 0, almost, 24, cells.length);
        refuseNaming("6 full of the second, ahead of outside of the third", almost, "places(2, 2, 0, 3) = -4");
        refuseNaming("6 outside of the first", almost, "places(2, 2, 6, 1) = -2");
        String[] outsideFirst = Arrays.copyOf(almost, almost.length + 2);
        outsideFirst[almost.length] = "put(2, 0, 25)";
        outsideFirst[almost.length + 1] = "put(2, 6, 3)";
        refuseNaming("6 outside of the first, ahead of full of the third", outsideFirst, "places(2, 2, 0, 3) = -2");
        String[] full = Arrays.copyOf(almost, almost.length + 1);
        full[almost.length] = "place(9, 9, 9)";
        refuseNaming("6 outside ahead of full, of one", full, "places(2, 2, 6, 1) = -2");
    }

    private static void numbersOfPlaces() {
        String[] wrong = {"-1", "4", "24", "TOP", "BOTTOM"};
        for (String p : wrong) {
            refuse("7 unknown", FEW, "drop(" + p + ") = -1");
            refuse("8 unknown", FEW, "about(" + p + ", 0) = -1", "about(" + p + ", 4) = -1");
            refuse("8 unknown ahead of outside", FEW, "about(" + p + ", 5) = -1", "about(" + p + ", -1) = -1");
            refuse("25 unknown", FEW, "tell(" + p + ") = -1");
            refuse("26 unknown", FEW, "count(" + p + ") = -1");
            refuseNaming("27 unknown", FEW, "as(" + p + ", 3) = -1");
            refuseNaming("27 unknown ahead of outside", FEW, "as(" + p + ", 4) = -1");
        }
        refuse("7, 8, 25, 26 no places", NOTHING, "drop(0) = -1", "about(0, 0) = -1", "tell(0) = -1", "count(0) = -1");
        refuseNaming("27 no places", NOTHING, "as(0, 0) = -1");
        refuse("7, 8, 25, 26 behind the last of all there is room for", filled(24), "drop(24) = -1", "about(24, 0) = -1",
            "tell(24) = -1", "count(24) = -1");
        refuseNaming("27 behind the last of all there is room for", filled(24), "as(24, 3) = -1");
    }

    private static void whats() {
        for (String what : new String[] {"-1", "5", "TOP", "BOTTOM"}) {
            refuse("8 what", FEW, "about(0, " + what + ") = -2", "about(3, " + what + ") = -2");
            refuse("30 what", FEW, "told(" + what + ") = -2");
        }
        for (String what : new String[] {"-1", "2", "TOP", "BOTTOM"}) {
            refuse("12 what", FEW, "first(" + what + ") = -2");
            refuse("12 outside ahead of state", RIGHT, "first(" + what + ") = -2");
            refuse("19 which", FEW, "whole(" + what + ") = LOST");
        }
        for (String what : new String[] {"-1", "3", "TOP", "BOTTOM"}) {
            refuse("13 what", FEW, "is(" + what + ") = -2");
        }
        for (String d : new String[] {"-1", "7", "TOP", "BOTTOM"}) {
            refuse("14 d", FEW, "least(" + d + ") = -2");
        }
        refuse("12 there is none", RIGHT, "first(0) = -3", "first(1) = -3");
    }

    private static void keptRules() {
        for (String k : new String[] {"-1", "6", "TOP", "BOTTOM"}) {
            refuse("15 unknown", FEW, "keep(" + k + ") = -1");
            refuse("16 unknown", FEW, "load(" + k + ") = -1");
        }
        refuse("16 none is kept there", FEW, "load(0) = -1", "load(2) = -1", "load(3) = -1", "load(5) = -1");
    }

    private static void pair() {
        refuse("17 d", FEW, "pair(0, 1) = -2", "pair(6, 1) = -2", "pair(-1, 6) = -2", "pair(TOP, 1) = -2", "pair(BOTTOM, 1) = -2");
        refuse("17 q", FEW, "pair(1, 0) = -2", "pair(1, 7) = -2", "pair(5, -1) = -2", "pair(1, TOP) = -2", "pair(1, BOTTOM) = -2");
        refuse("17 outside ahead of none", FEW, "pair(6, 6) = -2", "pair(5, 7) = -2");
        refuse("17 none: the rule stays", FEW, "pair(4, 1) = -9", "pair(5, 6) = -9");
        refuse("17 none: the rule stays", TRIANGLE, "pair(1, 1) = -9", "pair(1, 2) = -9", "pair(3, 6) = -9", "pair(5, 1) = -9");
        refuse("17 none: the rule stays", DIAMOND, "pair(4, 6) = -9", "pair(5, 1) = -9");
        refuse("17 none: the rule stays", filled(24), "pair(4, 6) = -9");
    }

    private static void polynomial() {
        refuse("18 unknown", FEW, "term(-1, 0) = LOST", "term(15, 0) = LOST", "term(TOP, 0) = LOST", "term(BOTTOM, 0) = LOST");
        refuse("18 outside", FEW, "term(0, 1001) = LOST", "term(0, -1001) = LOST", "term(14, TOP) = LOST", "term(14, BOTTOM) = LOST");
        refuse("18 both", FEW, "term(15, 1001) = LOST");
        refuse("20 k", FEW, "byRule(0, 0) = LOST", "byRule(4, 0) = LOST", "byRule(-1, 1) = LOST", "byRule(TOP, 0) = LOST",
            "byRule(BOTTOM, 0) = LOST");
        refuse("20 which", FEW, "byRule(1, -1) = LOST", "byRule(1, 2) = LOST", "byRule(3, TOP) = LOST", "byRule(3, BOTTOM) = LOST");
        refuse("20 k above 1, not the box", TRIANGLE, "byRule(2, 0) = LOST", "byRule(3, 0) = LOST", "byRule(2, 1) = LOST");
        refuse("20 k above 1, not the box", DIAMOND, "byRule(2, 0) = LOST", "byRule(3, 1) = LOST");
    }

    private static void sheet() {
        refuseNaming("21 unknown", FEW, "sheet(-1, 0, 1) = -1", "sheet(4, 0, 1) = -1", "sheet(TOP, 0, 1) = -1", "sheet(BOTTOM, 0, 1) = -1");
        refuseNaming("21 lane", FEW, "sheet(0, -1, 1) = -2", "sheet(0, 3, 1) = -2", "sheet(3, TOP, 1) = -2", "sheet(3, BOTTOM, 1) = -2");
        refuseNaming("21 n above 72", FEW, "sheet(0, 0, 73) = -2", "sheet(3, 2, TOP) = -2");
        fail(SIZE, "21 n below 0", FEW, "sheet(0, 0, -1) = -14", "sheet(1, 2, -1) = -14", "sheet(2, 2, BOTTOM) = -14",
            "sheet(3, 0, -72) = -14");
        refuseNaming("21 unknown ahead of lane, n", FEW, "sheet(4, 3, 73) = -1", "sheet(-1, 3, 0) = -1", "sheet(4, 0, 73) = -1");
        refuseNaming("21 unknown ahead of size", FEW, "sheet(4, 0, -1) = -1");
        refuseNaming("21 lane ahead of size", FEW, "sheet(0, 3, -1) = -2", "sheet(3, -1, -1) = -2");
        refuse("22 unknown", FEW, "lose(-1) = -1", "lose(4) = -1", "lose(TOP) = -1", "lose(BOTTOM) = -1");
        refuse("22 it had nothing", FEW, "lose(3) = 0");
    }

    private static void cells() {
        refuseNaming("23 unknown", FEW, "put(-1, 0, 9) = -1", "put(4, 0, 9) = -1", "put(TOP, 0, 9) = -1", "put(BOTTOM, 0, 9) = -1");
        refuseNaming("23 unknown ahead of index", FEW, "put(4, -1, 9) = -1");
        fail(NULL, "23 null", FEW, "put(3, 0, 9) = -11");
        fail(NULL, "23 null ahead of index", FEW, "put(3, -1, 9) = -11", "put(3, 72, 9) = -11");
        fail(INDEX, "23 index", FEW, "put(0, -1, 9) = -13", "put(0, 6, 9) = -13", "put(1, 9, 9) = -13", "put(2, 0, 9) = -13",
            "put(0, TOP, 9) = -13", "put(0, BOTTOM, 9) = -13");
        refuseNaming("24 unknown", FEW, "at(-1, 0, 0) = LOST", "at(4, 0, 0) = LOST", "at(TOP, 0, 0) = LOST", "at(BOTTOM, 0, 0) = LOST");
        refuseNaming("24 lane", FEW, "at(0, 0, -1) = LOST", "at(0, 0, 3) = LOST", "at(0, 0, TOP) = LOST", "at(0, 0, BOTTOM) = LOST");
        refuseNaming("24 lane ahead of null, index", FEW, "at(3, 0, 3) = LOST", "at(0, -1, -1) = LOST");
        fail(CAST, "24 cast", FEW, "at(0, 0, 1) = LOST", "at(0, 0, 2) = LOST", "at(1, 0, 0) = LOST", "at(1, 0, 2) = LOST");
        fail(CAST, "24 cast ahead of index", FEW, "at(0, 6, 1) = LOST", "at(2, 0, 0) = LOST", "at(2, -1, 1) = LOST");
        fail(NULL, "24 nothing is no cast", FEW, "at(3, 0, 0) = LOST", "at(3, 0, 1) = LOST", "at(3, 0, 2) = LOST");
        fail(NULL, "24 null ahead of index", FEW, "at(3, -1, 0) = LOST", "at(3, 72, 2) = LOST");
        fail(INDEX, "24 index", FEW, "at(0, -1, 0) = LOST", "at(0, 6, 0) = LOST", "at(1, 9, 1) = LOST", "at(2, 0, 2) = LOST",
            "at(0, TOP, 0) = LOST", "at(0, BOTTOM, 0) = LOST");
    }

    private static void as() {
        refuseNaming("27 kind", DIAMOND, "as(0, -1) = -2", "as(0, 4) = -2", "as(1, TOP) = -2", "as(2, BOTTOM) = -2");
        refuseNaming("27 outside ahead of cast", DIAMOND, "as(1, 4) = -2");
        fail(CAST, "27 alone in its orbit", DIAMOND, "as(0, 1) = -12", "as(0, 2) = -12");
        fail(CAST, "27 not in the domain", DIAMOND, "as(1, 0) = -12", "as(1, 1) = -12", "as(1, 3) = -12");
        fail(CAST, "27 of a greater orbit", DIAMOND, "as(2, 0) = -12", "as(2, 2) = -12");
    }

    /** What only tells leaves all as it was; so do calls that would put what is there already. */
    private static void answersChangeNothing() {
        for (String[] rule : new String[][] {FEW, TRIANGLE, DIAMOND, RIGHT, NOTHING, filled(24)}) {
            refuse("3, 9, 10 only tell", rule, "moment(6, 0, 1)", "sum(0, 6, 0)", "sum(3, 3, 1)", "error(6, 0, 0)", "error(0, 0, 1)");
            refuse("8, 11 .. 14 only tell", rule, "about(0, 3)", "about(0, 4)", "degree()", "is(0)", "is(1)", "is(2)", "least(6)");
            refuse("19, 20 only tell", rule, "whole(0)", "byRule(1, 0)", "byRule(3, 1)");
            refuse("28 .. 30 only tell", rule, "trace()", "fault()", "told(0)", "told(4)");
            refuse("18 what it was already", rule, "term(0, 7) = 7", "term(2, 0) = 0");
            refuseNaming("24 only tells", rule, "at(0, 0, 0) = 1", "at(1, 8, 1) = -10001");
            refuseNaming("6 none of the cells", rule, "places(2, 2, 0, 0)", "places(0, 0, 6, 0)");
        }
        refuseNaming("27 only tells", DIAMOND, "as(0, 0) = 1", "as(1, 2) = 1", "as(2, 1) = 1", "as(2, 3) = 1", "as(0, 3) = 1");
        refuse("4, 5 nothing more of w", FEW, "place(4, 0, 0) = 2", "orbit(0, 0, 0) = 1");
    }
}
