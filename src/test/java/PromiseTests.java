/**
 * Each promise of the document with ordinary numbers, edges and wrong ones. What is due was worked out from the document,
 * but for the rows of the pairs: those are what the program and the oracle both found.
 */
public final class PromiseTests {
    private static final long LOST = Long.MIN_VALUE;
    private static final int TOP = Integer.MAX_VALUE, BOTTOM = Integer.MIN_VALUE;
    private static int wrong = 0;

    private static void due(String what, long got, long want) {
        if (got != want) {
            wrong++;
            System.out.println(what + ": " + got + ", due is " + want);
        }
    }

    public static void main(String[] args) {
        constants();
        newObject();
        begin();
        moment();
        place();
        orbit();
        places();
        placesFaults();
        drop();
        about();
        sum();
        error();
        degree();
        first();
        is();
        least();
        keepAndLoad();
        pair();
        term();
        whole();
        byRule();
        sheet();
        lose();
        put();
        at();
        tellCountTrace();
        as();
        fault();
        told();
        System.out.println(wrong == 0 ? "all answers are as due" : wrong + " answers are not as due");
        if (wrong != 0) {
            System.exit(1);
        }
    }

    private static FewPlaces begun(int domain, int q, int w) {
        FewPlaces x = new FewPlaces();
        due("begin", x.begin(domain, q, w), 1);
        return x;
    }

    private static void constants() {
        due("UNKNOWN", FewPlaces.UNKNOWN, -1);
        due("OUTSIDE", FewPlaces.OUTSIDE, -2);
        due("STATE", FewPlaces.STATE, -3);
        due("FULL", FewPlaces.FULL, -4);
        due("NONE", FewPlaces.NONE, -9);
        due("LOST", FewPlaces.LOST, LOST);
    }

    private static void newObject() {
        FewPlaces x = new FewPlaces();
        due("1 places", x.told(0), 0);
        due("1 domain", x.told(1), 0);
        due("1 Q", x.told(2), 1);
        due("1 W", x.told(3), 1);
        due("1 kept", x.told(4), 0);
        due("1 trace", x.trace(), 0);
        due("1 fault", x.fault(), 0);
        for (int k = 0; k < 6; k++) {
            due("1 no kept rule", x.load(k), -1);
        }
        for (int k = 0; k < 4; k++) {
            due("1 no sheet", x.lose(k), 0);
        }
        for (int t = 0; t < 15; t++) {
            due("1 coefficient", x.term(t, 0), 0);
        }
        due("1 whole", x.whole(0), 0);
        due("1 whole", x.whole(1), 1);
    }

    private static void begin() {
        FewPlaces x = new FewPlaces();
        x.place(1, 1, 1);
        x.term(0, 3);
        due("2 begin", x.begin(2, 12, 10000), 1);
        due("2 no places", x.told(0), 0);
        due("2 domain", x.told(1), 2);
        due("2 Q", x.told(2), 12);
        due("2 W", x.told(3), 10000);
        due("2 the polynomial stays", x.term(0, 0), 3);
        x.place(1, 1, 1);
        due("2 domain below", x.begin(-1, 1, 1), -2);
        due("2 domain above", x.begin(3, 1, 1), -2);
        due("2 q below", x.begin(0, 0, 1), -2);
        due("2 q above", x.begin(0, 13, 1), -2);
        due("2 w below", x.begin(0, 1, 0), -2);
        due("2 w above", x.begin(0, 1, 10001), -2);
        due("2 least int", x.begin(BOTTOM, BOTTOM, BOTTOM), -2);
        due("2 refusals change nothing", x.told(0), 1);
        due("2 refusals change nothing", x.told(2), 12);
    }

    private static void moment() {
        FewPlaces x = new FewPlaces();
        due("3 box", x.moment(2, 4, 0), 4);
        due("3 box", x.moment(2, 4, 1), 15);
        due("3 box, odd", x.moment(3, 2, 0), 0);
        due("3 box, odd", x.moment(3, 2, 1), 1);
        x.begin(1, 1, 1);
        due("3 triangle", x.moment(3, 3, 0), 1);
        due("3 triangle", x.moment(3, 3, 1), 1120);
        due("3 triangle, odd", x.moment(1, 0, 0), 1);
        due("3 triangle, odd", x.moment(1, 0, 1), 6);
        x.begin(2, 1, 1);
        due("3 diamond", x.moment(4, 2, 0), 1);
        due("3 diamond", x.moment(4, 2, 1), 210);
        due("3 diamond, odd", x.moment(1, 1, 0), 0);
        due("3 a below", x.moment(-1, 0, 0), LOST);
        due("3 b below", x.moment(0, -1, 0), LOST);
        due("3 a + b above", x.moment(4, 3, 0), LOST);
        due("3 a + b wraps", x.moment(TOP, TOP, 0), LOST);
        due("3 a + b wraps", x.moment(TOP, 1, 1), LOST);
        due("3 which below", x.moment(0, 0, -1), LOST);
        due("3 which above", x.moment(0, 0, 2), LOST);
    }

    private static void place() {
        FewPlaces x = new FewPlaces();
        due("4 first", x.place(24, -24, 10000), 0);
        due("4 second", x.place(-24, 24, -10000), 1);
        due("4 one that there is", x.place(24, -24, -3), 0);
        due("4 its w", x.about(0, 2), 9997);
        due("4 what w would be", x.place(24, -24, 4), -2);
        due("4 what w would be", x.place(-24, 24, -1), -2);
        due("4 stays", x.about(0, 2), 9997);
        due("4 down to nought", x.place(24, -24, -9997), 0);
        due("4 still there", x.told(0), 2);
        due("4 x above", x.place(25, 0, 0), -2);
        due("4 x below", x.place(-25, 0, 0), -2);
        due("4 y above", x.place(0, 25, 0), -2);
        due("4 y below", x.place(0, -25, 0), -2);
        due("4 w above", x.place(0, 0, 10001), -2);
        due("4 w below", x.place(0, 0, -10001), -2);
        due("4 w wraps", x.place(24, -24, TOP), -2);
        for (int i = 0; i < 22; i++) {
            due("4 more", x.place(i, 0, 0), i + 2);
        }
        due("4 full", x.place(0, 1, 1), -4);
        due("4 outside ahead of full", x.place(0, 1, 10001), -2);
        due("4 one that there is, when full", x.place(21, 0, 5), 23);
        due("4 its w", x.about(23, 2), 5);
    }

    private static void orbit() {
        FewPlaces x = begun(0, 5, 1);
        due("5 eight", x.orbit(2, -1, 3), 8);
        int[] xs = {-2, -2, -1, -1, 1, 1, 2, 2};
        int[] ys = {-1, 1, -2, 2, -2, 2, -1, 1};
        for (int p = 0; p < 8; p++) {
            due("5 by X", x.about(p, 0), xs[p]);
            due("5 then Y", x.about(p, 1), ys[p]);
            due("5 w", x.about(p, 2), 3);
        }
        due("5 four", x.orbit(0, 2, 1), 4);
        due("5 one", x.orbit(0, 0, 1), 1);
        due("5 those that there are", x.orbit(1, 2, -4), 8);
        due("5 their w", x.about(7, 2), -1);
        due("5 none more", x.told(0), 13);
        due("5 eight more", x.orbit(3, 4, 1), 8);
        due("5 no room for four", x.orbit(5, 5, 1), -4);
        due("5 none comes", x.told(0), 21);
        due("5 outside ahead of full", x.orbit(24, 25, 1), -2);
        due("5 w", x.orbit(5, 5, 10001), -2);
        due("5 w", x.orbit(0, 0, -10001), -2);
        due("5 one that there is", x.place(0, 2, 9999), 10);
        due("5 w of one of them", x.orbit(2, 0, 1), -2);
        due("5 none changes", x.about(8, 2), 1);
        triangleOrbits();
    }

    private static void triangleOrbits() {
        FewPlaces x = begun(1, 6, 1);
        due("5 six", x.orbit(0, 1, 2), 6);
        int[] xs = {0, 0, 1, 1, 5, 5};
        int[] ys = {1, 5, 0, 5, 0, 1};
        for (int p = 0; p < 6; p++) {
            due("5 by X", x.about(p, 0), xs[p]);
            due("5 then Y", x.about(p, 1), ys[p]);
        }
        due("5 six, not all in the triangle", x.orbit(2, -2, 1), 6);
        due("5 z too great", x.orbit(-10, -9, 1), -2);
        due("5 z as great as may be", x.orbit(-9, -9, 1), 3);
        due("5 z too small", x.orbit(24, 7, 1), -2);
        due("5 z as small as may be", x.orbit(24, 6, 1), 6);
        due("5 three more", x.orbit(0, 0, 1), 3);
        due("5 told", x.told(0), 24);
        due("5 full", x.orbit(2, 2, 1), -4);
        due("5 z outside ahead of full", x.orbit(-24, -24, 1), -2);
    }

    private static void fill(FewPlaces x, int k, int... cells) {
        for (int i = 0; i < cells.length; i++) {
            due("put", x.put(k, i, cells[i]), 1);
        }
    }

    private static void places() {
        FewPlaces x = begun(0, 2, 3);
        x.sheet(1, 1, 12);
        fill(x, 1, 9, 1, 2, 3, 1, 2, 4, 25, 0, 0, 0, 0);
        due("6 from 1 on, like ones", x.places(1, 1, 1, 2), 1);
        due("6 X", x.about(0, 0), 1);
        due("6 Y", x.about(0, 1), 2);
        due("6 w", x.about(0, 2), 7);
        due("6 the third is outside", x.places(1, 1, 1, 3), -2);
        due("6 then none comes", x.about(0, 2), 7);
        due("6 from 0 on", x.places(1, 1, 0, 1), 2);
        due("6 what w would be, of two", x.place(1, 2, 9988), 0);
        due("6 what w would be, of two", x.places(1, 1, 1, 2), -2);
        due("6 none of them", x.about(0, 2), 9995);
        due("6 no places", x.places(1, 1, 12, 0), 2);
        for (int i = 0; i < 21; i++) {
            x.place(-i - 1, 0, 1);
        }
        due("6 23 places", x.told(0), 23);
        x.sheet(2, 2, 9);
        fill(x, 2, 20, 20, 1, 21, 21, 1, 99, 0, 0);
        due("6 full ahead of the outside one behind it", x.places(2, 2, 0, 3), -4);
        due("6 none comes", x.told(0), 23);
        due("6 refused: no fault", x.fault(), 0);
        due("6 the last one", x.places(2, 2, 0, 1), 24);
        due("6 outside ahead of full", x.places(2, 2, 6, 1), -2);
    }

    private static void placesFaults() {
        FewPlaces x = new FewPlaces();
        due("6 sheet below", x.places(-1, 9, 0, 1), -1);
        due("6 sheet above", x.places(4, 0, 0, 1), -1);
        due("6 lane below", x.places(0, -1, 0, 1), -2);
        due("6 lane above", x.places(0, 3, 0, -1), -2);
        due("6 nothing is no cast", x.places(0, 2, -1, -1), -11);
        due("6 null", x.fault(), 1);
        x.sheet(0, 0, 6);
        due("6 cast first", x.places(0, 1, -1, -1), -12);
        due("6 cast", x.fault(), 2);
        due("6 size ahead of index", x.places(0, 0, -1, -1), -14);
        due("6 size", x.fault(), 4);
        due("6 index below", x.places(0, 0, -1, 1), -13);
        due("6 index above", x.places(0, 0, 4, 1), -13);
        due("6 index", x.fault(), 3);
        due("6 index by n", x.places(0, 0, 0, 3), -13);
        due("6 3 n wraps", x.places(0, 0, 0, 1431655766), -13);
        due("6 i + 3 n wraps", x.places(0, 0, TOP, 1), -13);
        due("6 all great", x.places(0, 0, TOP, TOP), -13);
        due("6 no cells are all there", x.places(0, 0, -5, 0), 0);
        due("6 no cells are all there", x.places(0, 0, TOP, 0), 0);
        due("6 all cells", x.places(0, 0, 0, 2), 1);
        due("6 no fault", x.fault(), 0);
        x.sheet(3, 2, 0);
        due("6 an empty row", x.places(3, 2, 0, 0), 1);
        due("6 an empty row", x.places(3, 2, 0, 1), -13);
    }

    private static void drop() {
        FewPlaces x = new FewPlaces();
        due("7 none", x.drop(0), -1);
        for (int i = 0; i < 4; i++) {
            x.place(i, -i, 10 + i);
        }
        due("7 one of the middle", x.drop(1), 3);
        due("7 moved up", x.about(1, 0), 2);
        due("7 moved up", x.about(2, 1), -3);
        due("7 moved up", x.about(2, 2), 13);
        due("7 ahead of it", x.about(0, 2), 10);
        due("7 below", x.drop(-1), -1);
        due("7 above", x.drop(3), -1);
        due("7 the last", x.drop(2), 2);
        due("7 a new one", x.place(1, -1, 5), 2);
    }

    private static void about() {
        FewPlaces x = begun(2, 4, 1);
        x.place(-3, 1, -8);
        x.place(4, 4, 2);
        x.place(0, 0, 0);
        due("8 X", x.about(0, 0), -3);
        due("8 Y", x.about(0, 1), 1);
        due("8 w", x.about(0, 2), -8);
        due("8 orbit", x.about(0, 3), 8);
        due("8 border", x.about(0, 4), 1);
        due("8 not in the diamond", x.about(1, 4), 0);
        due("8 orbit on the slant", x.about(1, 3), 4);
        due("8 orbit of the middle", x.about(2, 3), 1);
        due("8 what below", x.about(0, -1), -2);
        due("8 what above", x.about(0, 5), -2);
        due("8 unknown ahead of outside", x.about(3, 5), -1);
        due("8 unknown", x.about(-1, 0), -1);
        x.begin(0, 4, 1);
        x.place(4, -4, 1);
        x.place(5, 0, 1);
        due("8 corner of the box", x.about(0, 4), 1);
        due("8 not in the box", x.about(1, 4), 0);
        x.begin(1, 4, 1);
        x.place(4, 0, 1);
        x.place(3, 2, 1);
        x.place(-1, 2, 1);
        x.place(-24, -24, 1);
        due("8 corner of the triangle", x.about(0, 4), 1);
        due("8 behind the long side", x.about(1, 4), 0);
        due("8 left of it", x.about(2, 4), 0);
        due("8 places of the orbit that could not come count", x.about(3, 3), 3);
        due("8 six", x.about(2, 3), 6);
    }

    private static void sum() {
        FewPlaces x = begun(0, 12, 10000);
        due("9 none", x.sum(0, 0, 0), 0);
        due("9 none", x.sum(0, 0, 1), 1);
        x.place(24, -6, 5000);
        x.place(-6, 0, -2500);
        due("9 of 1", x.sum(0, 0, 0), 1);
        due("9 of 1", x.sum(0, 0, 1), 4);
        due("9 of x: 1 + 1/8", x.sum(1, 0, 0), 9);
        due("9 of x", x.sum(1, 0, 1), 8);
        due("9 of x x y: -1", x.sum(2, 1, 0), -1);
        due("9 of x x y", x.sum(2, 1, 1), 1);
        due("9 of y^6: 1/128", x.sum(0, 6, 0), 1);
        due("9 of y^6", x.sum(0, 6, 1), 128);
        due("9 a", x.sum(-1, 0, 0), LOST);
        due("9 a + b", x.sum(6, 1, 0), LOST);
        due("9 wraps", x.sum(TOP, TOP, 0), LOST);
        due("9 which", x.sum(0, 0, 2), LOST);
        x.begin(0, 1, 1);
        for (int i = 0; i < 24; i++) {
            x.place(24, i, 10000);
        }
        due("9 the greatest", x.sum(6, 0, 0), 240000L * 191102976L);
    }

    private static void error() {
        FewPlaces x = begun(1, 3, 7);
        due("10 nothing less moment", x.error(0, 0, 0), -1);
        due("10 nothing less moment", x.error(0, 0, 1), 2);
        x.place(1, 1, 3);
        due("10 3/7 - 1/2", x.error(0, 0, 0), -1);
        due("10 3/7 - 1/2", x.error(0, 0, 1), 14);
        due("10 1/7 - 1/6", x.error(1, 0, 0), -1);
        due("10 1/7 - 1/6", x.error(1, 0, 1), 42);
        due("10 3/7/27 - 1/60", x.error(2, 1, 0), -1);
        due("10 3/7/27 - 1/60", x.error(2, 1, 1), 1260);
        due("10 a + b", x.error(3, 4, 0), LOST);
        due("10 b", x.error(0, -1, 0), LOST);
        due("10 which", x.error(0, 0, -1), LOST);
        x.begin(0, 1, 1);
        x.place(0, 0, 4);
        due("10 none", x.error(0, 0, 0), 0);
        due("10 none", x.error(0, 0, 1), 1);
    }

    private static void degree() {
        FewPlaces x = new FewPlaces();
        due("11 not for 0", x.degree(), -9);
        x.place(1, 0, 4);
        due("11 for 0", x.degree(), 0);
        x.begin(0, 1, 1);
        x.place(0, 0, 4);
        due("11 for 1", x.degree(), 1);
        x.begin(1, 6, 6);
        x.orbit(1, 1, 1);
        due("11 for 2", x.degree(), 2);
        due("11 for 6: the greatest that is told", rightForAll().degree(), 6);
        due("11 for 6: diamond", rightForAllDiamond().degree(), 6);
        FewPlaces y = rightForFive();
        due("11 for 5", y.degree(), 5);
        due("12 x^6", y.first(0), 6);
        due("12 x^6", y.first(1), 0);
    }

    /** Orbits and weights that were solved for outside of the program. */
    private static FewPlaces rightForAll() {
        FewPlaces x = begun(0, 2, 945);
        x.place(0, 0, 1328);
        x.orbit(1, 0, -568);
        x.orbit(2, 0, 244);
        x.orbit(3, 0, -8);
        x.orbit(1, 1, 896);
        x.orbit(2, 2, 49);
        return x;
    }

    private static FewPlaces rightForAllDiamond() {
        FewPlaces x = begun(2, 2, 3780);
        x.place(0, 0, 556);
        x.orbit(1, 0, 1252);
        x.orbit(2, 0, 152);
        x.orbit(3, 0, -4);
        x.orbit(1, 1, 352);
        x.orbit(2, 2, -1);
        return x;
    }

    private static FewPlaces rightForFive() {
        FewPlaces x = begun(0, 1, 45);
        x.place(0, 0, 68);
        x.orbit(1, 0, 24);
        x.orbit(2, 0, -1);
        x.orbit(1, 1, 5);
        return x;
    }
    private static void first() {
        FewPlaces x = new FewPlaces();
        due("12 a", x.first(0), 0);
        due("12 b", x.first(1), 0);
        due("12 what", x.first(-1), -2);
        due("12 what", x.first(2), -2);
        x.place(0, 1, 4);
        due("12 y errs, x does not", x.first(0), 0);
        due("12 y errs, x does not", x.first(1), 1);
        x.begin(0, 1, 1);
        x.place(1, 1, 4);
        due("12 of like ones the greatest a", x.first(0), 1);
        due("12 of like ones the greatest a", x.first(1), 0);
        x.begin(0, 1, 3);
        x.orbit(1, 0, 2);
        x.place(0, 0, 4);
        due("12 x^4 ahead of x x y y", x.first(0), 4);
        due("12 x^4 ahead of x x y y", x.first(1), 0);
        due("12 there is none", rightForAll().first(0), -3);
        due("12 there is none", rightForAll().first(1), -3);
        due("12 outside ahead of state", rightForAll().first(2), -2);
    }

    private static void is() {
        FewPlaces x = begun(0, 2, 1);
        x.orbit(2, 1, 3);
        due("13 within", x.is(0), 1);
        due("13 above", x.is(1), 1);
        due("13 even", x.is(2), 1);
        due("13 what", x.is(-1), -2);
        due("13 what", x.is(3), -2);
        x.place(2, 1, 1);
        due("13 another weight", x.is(2), 0);
        due("13 still above", x.is(1), 1);
        x.place(2, 1, -4);
        due("13 nought is not above", x.is(1), 0);
        x.begin(0, 2, 1);
        x.place(2, 2, 1);
        x.place(2, -2, 1);
        x.place(-2, 2, 1);
        due("13 one place lacks", x.is(2), 0);
        x.place(-2, -2, 1);
        due("13 none lacks", x.is(2), 1);
        x.orbit(3, 0, -1);
        due("13 not within", x.is(0), 0);
        due("13 below nought", x.is(1), 0);
        due("13 even, not within", x.is(2), 1);
        x.begin(1, 3, 1);
        x.place(1, 1, 5);
        due("13 the middle of the triangle", x.is(2), 1);
        x.place(0, 0, 1);
        x.place(0, 3, 1);
        due("13 a corner lacks", x.is(2), 0);
        x.place(3, 0, 1);
        due("13 three corners", x.is(2), 1);
        x.begin(1, 4, 1);
        x.place(1, 1, 5);
        due("13 not the middle", x.is(2), 0);
    }

    private static void least() {
        FewPlaces x = new FewPlaces();
        int[] want = {1, 1, 3, 3, 6, 6, 10};
        for (int d = 0; d <= 6; d++) {
            due("14 least", x.least(d), want[d]);
        }
        due("14 below", x.least(-1), -2);
        due("14 above", x.least(7), -2);
    }

    private static void keepAndLoad() {
        FewPlaces x = begun(2, 5, 9);
        x.orbit(1, 0, 7);
        due("15 keep", x.keep(5), 4);
        due("15 kept", x.told(4), 1);
        due("15 again", x.keep(5), 4);
        due("15 still one", x.told(4), 1);
        due("15 below", x.keep(-1), -1);
        due("15 above", x.keep(6), -1);
        x.place(0, 0, 1);
        x.place(-1, 0, 3);
        x.begin(1, 2, 3);
        due("15 without places", x.keep(0), 0);
        due("15 two", x.told(4), 2);
        due("16 load", x.load(5), 4);
        due("16 domain", x.told(1), 2);
        due("16 Q", x.told(2), 5);
        due("16 W", x.told(3), 9);
        due("16 what came later is not kept", x.about(0, 2), 7);
        due("16 what came later is not kept", x.about(4, 2), -1);
        x.drop(0);
        due("16 again: it stays kept", x.load(5), 4);
        due("16 the empty one", x.load(0), 0);
        due("16 domain", x.told(1), 1);
        due("16 none kept there", x.load(1), -1);
        due("16 below", x.load(-1), -1);
        due("16 above", x.load(6), -1);
        x.begin(0, 1, 1);
        x.keep(5);
        due("15 in place of what that was", x.load(5), 0);
    }

    private static void rowOfPair(FewPlaces x, int p, int atX, int atY, int w) {
        due("17 X of " + p, x.about(p, 0), atX);
        due("17 Y of " + p, x.about(p, 1), atY);
        due("17 w of " + p, x.about(p, 2), w);
    }

    private static void pair() {
        FewPlaces x = begun(1, 9, 9);
        x.place(7, 7, 7);
        due("17 none", x.pair(3, 6), -9);
        due("17 the rule stays", x.about(0, 2), 7);
        due("17 the rule stays", x.told(2), 9);
        due("17 weight nought is not above", x.pair(1, 2), -9);
        due("17 corners and middle", x.pair(2, 6), 4);
        due("17 Q", x.told(2), 6);
        due("17 W", x.told(3), 24);
        rowOfPair(x, 0, 0, 0, 1);
        rowOfPair(x, 1, 0, 6, 1);
        rowOfPair(x, 2, 6, 0, 1);
        rowOfPair(x, 3, 2, 2, 9);
        due("17 no middle on this grid", x.pair(1, 5), 6);
        due("17 W", x.told(3), 168);
        rowOfPair(x, 2, 5, 0, 3);
        rowOfPair(x, 3, 1, 1, 25);
        rowOfPair(x, 5, 3, 1, 25);
        x.begin(0, 1, 1);
        due("17 box", x.pair(3, 4), 5);
        due("17 domain", x.told(1), 0);
        due("17 W", x.told(3), 3);
        rowOfPair(x, 0, -4, -4, 1);
        rowOfPair(x, 1, -4, 4, 1);
        rowOfPair(x, 4, 0, 0, 8);
        due("17 box, 4", x.pair(4, 6), -9);
        x.begin(2, 1, 1);
        due("17 diamond", x.pair(1, 6), 5);
        due("17 W", x.told(3), 6);
        rowOfPair(x, 0, -6, 0, 1);
        rowOfPair(x, 1, 0, -6, 1);
        rowOfPair(x, 4, 0, 0, 8);
        due("17 d below", x.pair(0, 1), -2);
        due("17 d above", x.pair(6, 1), -2);
        due("17 q below", x.pair(1, 0), -2);
        due("17 q above", x.pair(1, 7), -2);
        due("17 refusals change nothing", x.told(2), 6);
    }

    private static void term() {
        FewPlaces x = new FewPlaces();
        due("18 what it was", x.term(14, -1000), 0);
        due("18 what it was", x.term(14, 1000), -1000);
        due("18 c above", x.term(14, 1001), LOST);
        due("18 c below", x.term(14, -1001), LOST);
        due("18 stays", x.term(14, 0), 1000);
        due("18 t below", x.term(-1, 0), LOST);
        due("18 t above", x.term(15, 0), LOST);
    }

    private static void whole() {
        FewPlaces x = begun(1, 1, 1);
        int[] lowers = {2, 6, 6, 12, 24, 12, 20, 60, 60, 20, 30, 120, 180, 120, 30};
        for (int t = 0; t < 15; t++) {
            x.term(t, 1);
            due("19 upper of term " + t, x.whole(0), 1);
            due("19 lower of term " + t, x.whole(1), lowers[t]);
            x.term(t, 0);
        }
        x.term(0, 1);
        x.term(1, -2);
        x.term(10, 7);
        due("19 1/2 - 1/3 + 7/30", x.whole(0), 2);
        due("19 1/2 - 1/3 + 7/30", x.whole(1), 5);
        x.begin(0, 1, 1);
        due("19 box: 4 + 28/5", x.whole(0), 48);
        due("19 box: 4 + 28/5", x.whole(1), 5);
        x.begin(2, 1, 1);
        due("19 diamond: 2 + 14/15", x.whole(0), 44);
        due("19 diamond: 2 + 14/15", x.whole(1), 15);
        due("19 which", x.whole(2), LOST);
        due("19 which", x.whole(-1), LOST);
    }

    private static void byRule() {
        FewPlaces x = begun(0, 2, 3);
        x.term(3, 1);
        x.term(1, 1);
        due("20 no places", x.byRule(1, 0), 0);
        due("20 no places", x.byRule(1, 1), 1);
        x.place(1, 0, 2);
        due("20 2/3 (1/4 + 1/2)", x.byRule(1, 0), 1);
        due("20 2/3 (1/4 + 1/2)", x.byRule(1, 1), 2);
        // At x -1/4 and 3/4, twice each, a weight of 1/6: (1/16 - 1/4 + 9/16 + 3/4) by 3.
        due("20 cut by 2", x.byRule(2, 0), 3);
        due("20 cut by 2", x.byRule(2, 1), 8);
        // At x -1/2, 1/6, 5/6, thrice each, a weight of 2/27: (1/4 - 1/2 + 1/36 + 1/6 + 25/36 + 5/6) by 2/9.
        due("20 cut by 3", x.byRule(3, 0), 53);
        due("20 cut by 3", x.byRule(3, 1), 162);
        due("20 k below", x.byRule(0, 0), LOST);
        due("20 k above", x.byRule(4, 0), LOST);
        due("20 which", x.byRule(1, 2), LOST);
        due("20 which", x.byRule(1, -1), LOST);
        x.begin(1, 2, 3);
        x.place(1, 0, 2);
        due("20 triangle", x.byRule(1, 0), 1);
        due("20 triangle is not cut", x.byRule(2, 0), LOST);
        x.begin(2, 2, 3);
        x.place(1, 0, 2);
        due("20 diamond", x.byRule(1, 1), 2);
        due("20 diamond is not cut", x.byRule(3, 1), LOST);
        greatestByRule();
    }

    private static void greatestByRule() {
        FewPlaces x = begun(0, 1, 1);
        x.term(10, 1000);
        for (int i = 0; i < 24; i++) {
            x.place(24, i, 10000);
        }
        due("20 the greatest, whole", x.byRule(1, 0), 240000L * 1000 * 331776);
        // At x 22/3, 24/3, 26/3: each thrice, by nine.
        due("20 the greatest, cut", x.byRule(3, 0), 240000L * 1000 / 3 * (234256 + 331776 + 456976));
        due("20 the greatest, cut", x.byRule(3, 1), 81);
    }

    private static void sheet() {
        FewPlaces x = new FewPlaces();
        due("21 none", x.sheet(0, 0, 0), 1);
        due("21 no cell", x.put(0, 0, 1), -13);
        due("21 the longest", x.sheet(3, 2, 72), 1);
        due("21 its last cell", x.put(3, 71, 5), 1);
        due("21 one cell behind", x.put(3, 72, 5), -13);
        due("21 a new row", x.sheet(3, 2, 72), 1);
        due("21 is of noughts", x.at(3, 71, 2), 0);
        x.put(3, 71, 5);
        x.sheet(3, 1, 2);
        x.sheet(3, 2, 72);
        due("21 is of noughts", x.at(3, 71, 2), 0);
        due("21 unknown", x.sheet(4, 3, -1), -1);
        due("21 unknown", x.sheet(-1, 0, 1), -1);
        due("21 lane", x.sheet(3, 3, -1), -2);
        due("21 lane", x.sheet(3, -1, 1), -2);
        due("21 too long", x.sheet(3, 0, 73), -2);
        due("21 size", x.sheet(3, 0, -1), -14);
        due("21 size", x.fault(), 4);
        due("21 size", x.sheet(3, 0, BOTTOM), -14);
        due("21 the row stays", x.at(3, 0, 2), 0);
    }

    private static void lose() {
        FewPlaces x = new FewPlaces();
        x.sheet(2, 0, 0);
        due("22 had a row", x.lose(2), 1);
        due("22 had nothing", x.lose(2), 0);
        due("22 has nothing", x.put(2, 0, 1), -11);
        due("22 unknown", x.lose(-1), -1);
        due("22 unknown", x.lose(4), -1);
        due("22 names no fault", x.fault(), 1);
    }

    private static void put() {
        FewPlaces x = new FewPlaces();
        x.sheet(0, 0, 2);
        x.sheet(1, 1, 2);
        x.sheet(2, 2, 2);
        due("23 put", x.put(0, 1, 200), 1);
        due("23 cut to a byte", x.at(0, 1, 0), -56);
        due("23 the other cell", x.at(0, 0, 0), 0);
        x.put(1, 0, 40000);
        due("23 cut to a short", x.at(1, 0, 1), -25536);
        x.put(2, 0, BOTTOM);
        due("23 an int", x.at(2, 0, 2), BOTTOM);
        due("23 unknown", x.put(-1, 0, 0), -1);
        due("23 unknown", x.put(4, 0, 0), -1);
        due("23 null", x.put(3, -1, 0), -11);
        due("23 null", x.fault(), 1);
        due("23 index", x.put(0, -1, 0), -13);
        due("23 index", x.put(0, 2, 0), -13);
        due("23 index", x.put(0, BOTTOM, 0), -13);
        due("23 index", x.fault(), 3);
    }

    private static void at() {
        FewPlaces x = new FewPlaces();
        x.sheet(1, 1, 3);
        x.put(1, 2, -7);
        due("24 at", x.at(1, 2, 1), -7);
        due("24 no fault", x.fault(), 0);
        due("24 cast ahead of index", x.at(1, 3, 0), LOST);
        due("24 cast", x.fault(), 2);
        due("24 index", x.at(1, 3, 1), LOST);
        due("24 index", x.fault(), 3);
        due("24 index", x.at(1, -1, 1), LOST);
        due("24 nothing is no cast", x.at(0, -1, 2), LOST);
        due("24 null", x.fault(), 1);
        due("24 unknown", x.at(4, 0, 0), LOST);
        due("24 refused", x.fault(), 0);
        x.at(0, 0, 0);
        due("24 lane", x.at(1, 0, 3), LOST);
        due("24 refused", x.fault(), 0);
        due("24 lane", x.at(1, 0, -1), LOST);
    }

    private static void tellCountTrace() {
        FewPlaces x = begun(0, 2, 1);
        x.place(0, 0, 9);
        x.place(1, 2, 5);
        x.place(3, 3, 4);
        due("25 alone", x.tell(0), 9);
        due("28 1", x.trace(), 1);
        due("25 of a greater orbit", x.tell(1), 13);
        due("28 2, 1", x.trace(), (1 * 31 + 2) * 31 + 1);
        due("25 not in the domain", x.tell(2), -4);
        due("28 3, 1", x.trace(), (1024 * 31 + 3) * 31 + 1);
        due("26 lent", x.count(1), 1);
        due("28 4", x.trace(), 984158 * 31 + 4);
        due("26 its own", x.count(2), 77);
        due("28 5", x.trace(), 30508902 * 31 + 5);
        due("25 unknown", x.tell(3), -1);
        due("25 unknown", x.tell(-1), -1);
        due("26 unknown", x.count(3), -1);
        due("26 unknown", x.count(-1), -1);
        due("28 refusals leave nothing", x.trace(), 945775967);
        x.count(0);
        due("28 wraps", x.trace(), 945775967 * 31 + 4);
        x.begin(1, 3, 1);
        due("28 stays with a new rule", x.trace(), 945775967 * 31 + 4);
        x.place(-24, -24, -6);
        x.place(1, 1, 2);
        x.place(0, 1, 2);
        due("25 astray in the triangle", x.tell(0), 6);
        due("25 the middle of the triangle", x.tell(1), 2);
        due("25 one of six", x.tell(2), 8);
    }

    private static void as() {
        FewPlaces x = begun(2, 2, 1);
        x.place(0, 0, 1);
        x.place(1, 1, 1);
        x.place(2, 1, 1);
        int[][] want = {{1, -12, -12, 1}, {-12, 1, -12, 1}, {-12, -12, 1, -12}};
        for (int p = 0; p < 3; p++) {
            for (int kind = 0; kind < 4; kind++) {
                due("27 as(" + p + ", " + kind + ")", x.as(p, kind), want[p][kind]);
                due("27 fault", x.fault(), want[p][kind] == 1 ? 0 : 2);
            }
        }
        due("27 unknown ahead of outside", x.as(3, 4), -1);
        due("27 unknown", x.as(-1, 0), -1);
        due("27 below", x.as(0, -1), -2);
        due("27 above", x.as(0, 4), -2);
    }

    private static void fault() {
        FewPlaces x = new FewPlaces();
        x.put(0, 0, 0);
        due("29 null", x.fault(), 1);
        x.begin(9, 9, 9);
        x.place(99, 0, 0);
        x.orbit(99, 0, 0);
        x.drop(9);
        x.about(9, 9);
        x.tell(9);
        x.count(9);
        x.lose(9);
        x.load(9);
        x.term(99, 0);
        x.told(9);
        due("29 refusals of calls that name none", x.fault(), 1);
        due("29 a call that came to none", x.sheet(0, 0, 1), 1);
        due("29 none", x.fault(), 0);
        x.put(0, 1, 0);
        due("29 index", x.fault(), 3);
        x.put(9, 0, 0);
        due("29 refused", x.fault(), 0);
        x.at(0, 0, 1);
        due("29 cast", x.fault(), 2);
        x.as(9, 0);
        due("29 refused", x.fault(), 0);
        x.sheet(0, 0, -9);
        due("29 size", x.fault(), 4);
        x.places(9, 0, 0, 0);
        due("29 refused", x.fault(), 0);
        x.sheet(0, 0, -9);
        x.sheet(0, 0, 99);
        due("29 refused", x.fault(), 0);
    }

    private static void told() {
        FewPlaces x = begun(1, 4, 5);
        x.place(0, 0, 0);
        x.keep(1);
        x.keep(4);
        due("30 places", x.told(0), 1);
        due("30 domain", x.told(1), 1);
        due("30 Q", x.told(2), 4);
        due("30 W", x.told(3), 5);
        due("30 kept", x.told(4), 2);
        due("30 below", x.told(-1), -2);
        due("30 above", x.told(5), -2);
    }
}
