/** All promises: each number that a call is given, at both edges of what is allowed, beside them and far from them. */
public final class RangesTest {
    private static final int UNKNOWN = -1, OUTSIDE = -2;
    private static final int CAST = -12, INDEX = -13, SIZE = -14;
    private static final long LOST = Long.MIN_VALUE;
    private static final String TEXT = "a>b";

    private final Check check = new Check();
    private final Edge edge = new Edge(check);

    public static void main(String[] args) {
        RangesTest test = new RangesTest();
        test.sounds();
        test.entry();
        test.entryCells();
        test.near();
        test.form();
        test.formCells();
        test.ofForm();
        test.read();
        test.readCells();
        test.root();
        test.rootCells();
        test.law();
        test.lawCells();
        test.force();
        test.derived();
        test.costs();
        test.sought();
        test.sets();
        test.order();
        test.groups();
        test.area();
        test.sheets();
        test.cells();
        test.kinds();
        test.check.end();
    }

    /**
     * Two PLACES, two FORMS, a LAW, ROOTS of all MEANINGS, a COLLECTOR that READS 0; all four SHEETS have 60 cells of 0 of
     * one LANE, that of the number given, or bytes.
     */
    private static DialectForms ready(int lane) {
        DialectForms x = Check.withPlaces(2);
        Check.law(x, 3, TEXT);
        Check.form(x, 1, 0, 0, "ab");
        Check.form(x, 0, 1, 0, "ba");
        for (int m = 0; m < 6; m++) {
            Check.root(x, m, "ab");
        }
        for (int k = 0; k < 4; k++) {
            x.sheet(k, isLane(lane) ? lane : 0, 60);
        }
        for (int c = 0; c < 3; c++) {
            x.entry(c, 3, 0, isLane(lane) ? lane : 0, 0, 1);
        }
        return x;
    }

    private static boolean isLane(int lane) {
        return lane >= 0 && lane <= 2;
    }

    /** Ready, and the SHEET begins with a TEXT. */
    private static DialectForms readyText(int lane, int sheet) {
        DialectForms x = ready(lane);
        for (int i = 0; i < TEXT.length(); i++) {
            x.put(sheet, i, TEXT.charAt(i));
        }
        return x;
    }

    /** Ready, with ints; cell 5 of SHEET 0 is v. */
    private static DialectForms readyWith(int v) {
        DialectForms x = ready(2);
        x.put(0, 5, v);
        return x;
    }

    private void sounds() {
        edge.range("2: SOUND", 0, 15, UNKNOWN, v -> new DialectForms().sound(v, 1, 2));
        edge.range("2: yes", 0, 63, OUTSIDE, v -> new DialectForms().sound(0, v, 0));
        edge.range("2: no", 0, 63, OUTSIDE, v -> new DialectForms().sound(15, 0, v));
        for (int f = 0; f < 6; f++) {
            int one = 1 << f;
            check.due("2: FEATURE " + f + " in both", new DialectForms().sound(0, one, one), OUTSIDE);
            check.due("2: FEATURE " + f + " in both", new DialectForms().sound(0, 63, one), OUTSIDE);
            check.due("2: FEATURE " + f + " in one alone", new DialectForms().sound(0, 63 - one, one), 1);
        }
        edge.range("3: SOUND", 0, 15, UNKNOWN, v -> new DialectForms().feature(v, 5));
        edge.range("3: FEATURE", 0, 5, OUTSIDE, v -> new DialectForms().feature(15, v));
        edge.range("4: the first SOUND", 0, 15, UNKNOWN, v -> new DialectForms().differ(v, 15));
        edge.range("4: the second SOUND", 0, 15, UNKNOWN, v -> new DialectForms().differ(15, v));
    }

    private void entry() {
        edge.range("5: COLLECTOR", 0, 2, UNKNOWN, v -> ready(0).entry(v, 0, 0, 0, 0, 1));
        edge.range("5: SOUND", 0, 15, UNKNOWN, v -> ready(0).entry(0, v, 0, 0, 0, 1));
        edge.range("5: SHEET", 0, 3, UNKNOWN, v -> ready(0).entry(0, 0, v, 0, 0, 1));
        edge.range("5: lane", 0, 2, OUTSIDE, v -> ready(v).entry(0, 0, 0, v, 0, 1));
        edge.range("5: a code", 0, 127, OUTSIDE, v -> readyWith(v).entry(0, 0, 0, 2, 5, 1));
        edge.range("5: the first of three codes", 0, 127, OUTSIDE, v -> readyWith(v).entry(0, 0, 0, 2, 5, 3));
        edge.range("5: the last of three codes", 0, 127, OUTSIDE, v -> readyWith(v).entry(0, 0, 0, 2, 3, 3));
        edge.answered("5: the code behind them", 128, 129, 2, v -> readyWith(v).entry(0, 0, 0, 2, 2, 3));
        edge.answered("5: the code ahead of them", 128, 129, 2, v -> readyWith(v).entry(0, 0, 0, 2, 6, 3));
    }

    private void entryCells() {
        edge.below("5: n", 0, SIZE, v -> ready(0).entry(0, 0, 0, 0, 0, v));
        edge.answered("5: n", 0, 0, OUTSIDE, v -> ready(0).entry(0, 0, 0, 0, 0, v));
        edge.taken("5: n", 1, 3, v -> ready(0).entry(0, 0, 0, 0, 0, v));
        edge.answered("5: n", 4, 60, OUTSIDE, v -> ready(0).entry(0, 0, 0, 0, 0, v));
        edge.above("5: n", 60, INDEX, v -> ready(0).entry(0, 0, 0, 0, 0, v));
        edge.range("5: i of one cell", 0, 59, INDEX, v -> ready(0).entry(0, 0, 0, 0, v, 1));
        edge.range("5: i of three cells", 0, 57, INDEX, v -> ready(0).entry(0, 0, 0, 0, v, 3));
        edge.answered("5: i of no cells", 0, 60, OUTSIDE, v -> ready(0).entry(0, 0, 0, 0, v, 0));
        edge.below("5: i of no cells", 0, INDEX, v -> ready(0).entry(0, 0, 0, 0, v, 0));
        edge.above("5: i of no cells", 60, INDEX, v -> ready(0).entry(0, 0, 0, 0, v, 0));
        otherLanes("5: LANE ", (x, sheet, lane) -> x.entry(0, 0, sheet, lane, 0, 1));
    }

    private interface Taking {
        long from(DialectForms x, int sheet, int lane);
    }

    /** Each LANE taken as each: CAST, if it is another; nothing is no CAST. */
    private void otherLanes(String what, Taking call) {
        for (int has = 0; has < 3; has++) {
            for (int lane = 0; lane < 3; lane++) {
                long got = call.from(readyText(has, 0), 0, lane);
                if (has == lane) {
                    check.isTrue(what + has + " as itself answered " + got, got >= 0);
                } else {
                    check.due(what + has + " as " + lane, got, CAST);
                }
                DialectForms x = ready(has);
                x.lose(3);
                check.due(what + has + " lost, as " + lane, call.from(x, 3, lane), -11);
                check.due(what + has + " lost: fault()", x.fault(), 1);
            }
        }
    }

    private void near() {
        edge.taken("7: the first PLACE of eight", 0, 6, v -> Check.withPlaces(8).near(v, 7, true));
        edge.below("7: the first PLACE of eight", 0, UNKNOWN, v -> Check.withPlaces(8).near(v, 7, true));
        edge.above("7: the first PLACE of eight", 7, UNKNOWN, v -> Check.withPlaces(8).near(v, 7, true));
        edge.taken("7: the second PLACE of eight", 1, 7, v -> Check.withPlaces(8).near(0, v, true));
        edge.below("7: the second PLACE of eight", 0, UNKNOWN, v -> Check.withPlaces(8).near(0, v, true));
        edge.above("7: the second PLACE of eight", 7, UNKNOWN, v -> Check.withPlaces(8).near(0, v, true));
        edge.above("7: the second PLACE of two", 1, UNKNOWN, v -> Check.withPlaces(2).near(0, v, true));
        for (int p = 0; p < 8; p++) {
            check.due("7: PLACE " + p + " and itself", Check.withPlaces(8).near(p, p, true), OUTSIDE);
        }
        check.due("7: where there is no PLACE", new DialectForms().near(0, 0, true), UNKNOWN);
        check.due("7: where there is one PLACE", Check.withPlaces(1).near(0, 0, true), OUTSIDE);
        check.due("7: where there is one PLACE", Check.withPlaces(1).near(0, 1, true), UNKNOWN);
    }

    private void form() {
        edge.range("8: kind", 0, 2, OUTSIDE, v -> ready(0).form(v, 0, 0, 0, 0, 0, 1));
        edge.range("8: PLACE", 0, 1, UNKNOWN, v -> ready(0).form(0, v, 0, 0, 0, 0, 1));
        edge.range("8: MEANING", 0, 5, UNKNOWN, v -> ready(0).form(0, 0, v, 0, 0, 0, 1));
        edge.range("8: SHEET", 0, 3, UNKNOWN, v -> ready(0).form(0, 0, 0, v, 0, 0, 1));
        edge.range("8: lane", 0, 2, OUTSIDE, v -> ready(v).form(0, 0, 0, 0, v, 0, 1));
        edge.range("8: a SOUND", 0, 15, UNKNOWN, v -> readyWith(v).form(0, 0, 0, 0, 2, 5, 1));
        edge.range("8: the first of eight SOUNDS", 0, 15, UNKNOWN, v -> readyWith(v).form(0, 0, 0, 0, 2, 5, 8));
        edge.range("8: the last of six SOUNDS", 0, 15, UNKNOWN, v -> readyWith(v).form(0, 0, 0, 0, 2, 0, 6));
        edge.answered("8: the cell behind them", 16, 17, 2, v -> readyWith(v).form(0, 0, 0, 0, 2, 0, 5));
        edge.answered("8: the cell ahead of them", 16, 17, 2, v -> readyWith(v).form(0, 0, 0, 0, 2, 6, 8));
    }

    private void formCells() {
        edge.below("8: n", 0, SIZE, v -> ready(0).form(0, 0, 0, 0, 0, 0, v));
        edge.taken("8: n", 0, 8, v -> ready(0).form(0, 0, 0, 0, 0, 0, v));
        edge.answered("8: n", 9, 60, OUTSIDE, v -> ready(0).form(0, 0, 0, 0, 0, 0, v));
        edge.above("8: n", 60, INDEX, v -> ready(0).form(0, 0, 0, 0, 0, 0, v));
        edge.range("8: i of no cells", 0, 60, INDEX, v -> ready(0).form(0, 0, 0, 0, 0, v, 0));
        edge.range("8: i of one cell", 0, 59, INDEX, v -> ready(0).form(0, 0, 0, 0, 0, v, 1));
        edge.range("8: i of eight cells", 0, 52, INDEX, v -> ready(0).form(0, 0, 0, 0, 0, v, 8));
        otherLanes("8: LANE ", (x, sheet, lane) -> x.form(0, 0, 0, sheet, lane, 3, 1));
    }

    private void ofForm() {
        edge.range("10: FORM", 0, 1, UNKNOWN, v -> ready(0).ofForm(v, 3));
        edge.range("10: what of it", 0, 3, OUTSIDE, v -> ready(0).ofForm(0, v));
        edge.answered("10: what of it", 4, 9, OUTSIDE, v -> ready(0).ofForm(0, v));
        edge.taken("10: its SOUNDS", 10, 11, v -> ready(0).ofForm(0, v));
        edge.above("10: its SOUNDS", 11, OUTSIDE, v -> ready(0).ofForm(0, v));
        for (int size = 0; size <= 8; size++) {
            DialectForms x = Check.withPlaces(1);
            Check.form(x, 0, 0, 0, "ponmlkji".substring(0, size));
            check.due("10: how many", x.ofForm(0, 3), size);
            for (int k = 0; k <= 8; k++) {
                check.due("10: SOUND " + k + " of " + size, x.ofForm(0, 10 + k), k < size ? 15 - k : OUTSIDE);
            }
        }
        edge.range("11: PLACE", 0, 1, UNKNOWN, v -> ready(0).said(v, 0));
        edge.range("11: MEANING", 0, 5, UNKNOWN, v -> ready(0).said(0, v));
        check.due("11: where there is no PLACE", new DialectForms().said(0, 0), UNKNOWN);
    }

    private void read() {
        edge.range("9: COLLECTOR", 0, 2, UNKNOWN, v -> ready(0).read(v, 0, 0, 0, 0, 0, 1));
        edge.range("9: PLACE", 0, 1, UNKNOWN, v -> ready(0).read(0, v, 0, 0, 0, 0, 1));
        edge.range("9: MEANING", 0, 5, UNKNOWN, v -> ready(0).read(0, 0, v, 0, 0, 0, 1));
        edge.range("9: SHEET", 0, 3, UNKNOWN, v -> ready(0).read(0, 0, 0, v, 0, 0, 1));
        edge.range("9: lane", 0, 2, OUTSIDE, v -> ready(v).read(0, 0, 0, 0, v, 0, 1));
        edge.range("9: a code", 0, 0, -103, v -> readyWith(v).read(0, 0, 0, 0, 2, 2, 4));
    }

    private void readCells() {
        edge.below("9: n", 0, SIZE, v -> ready(0).read(0, 0, 0, 0, 0, 0, v));
        edge.taken("9: n", 0, 8, v -> ready(0).read(0, 0, 0, 0, 0, 0, v));
        edge.answered("9: n of more than eight SOUNDS", 9, 60, -108, v -> ready(0).read(0, 0, 0, 0, 0, 0, v));
        edge.above("9: n", 60, INDEX, v -> ready(0).read(0, 0, 0, 0, 0, 0, v));
        edge.range("9: i of no cells", 0, 60, INDEX, v -> ready(0).read(0, 0, 0, 0, 0, v, 0));
        edge.range("9: i of one cell", 0, 59, INDEX, v -> ready(0).read(0, 0, 0, 0, 0, v, 1));
        edge.range("9: i of eight cells", 0, 52, INDEX, v -> ready(0).read(0, 0, 0, 0, 0, v, 8));
        otherLanes("9: LANE ", (x, sheet, lane) -> x.read(0, 0, 0, sheet, lane, 3, 1));
    }

    private void root() {
        edge.range("12: MEANING", 0, 5, UNKNOWN, v -> ready(0).root(v, 0, 0, 0, 1));
        edge.range("12: SHEET", 0, 3, UNKNOWN, v -> ready(0).root(0, v, 0, 0, 1));
        edge.range("12: lane", 0, 2, OUTSIDE, v -> ready(v).root(0, 0, v, 0, 1));
        edge.range("12: a SOUND", 0, 15, UNKNOWN, v -> readyWith(v).root(0, 0, 2, 5, 1));
        edge.range("12: the first of eight SOUNDS", 0, 15, UNKNOWN, v -> readyWith(v).root(0, 0, 2, 5, 8));
        edge.range("12: the last of six SOUNDS", 0, 15, UNKNOWN, v -> readyWith(v).root(0, 0, 2, 0, 6));
        edge.answered("12: the cell behind them", 16, 17, 5, v -> readyWith(v).root(0, 0, 2, 0, 5));
        edge.range("13: MEANING", 0, 5, UNKNOWN, v -> ready(0).ofRoot(v, 0));
        edge.range("13: k", -1, 7, UNKNOWN, v -> ready(0).ofRoot(0, v));
        edge.range("13: k where there is no ROOT", -1, 7, UNKNOWN, v -> new DialectForms().ofRoot(0, v));
        for (int size = 0; size <= 8; size++) {
            DialectForms x = new DialectForms();
            check.due("12: how many", Check.root(x, 5, "ponmlkji".substring(0, size)), size);
            check.due("13: how many", x.ofRoot(5, -1), size);
            for (int k = 0; k < 8; k++) {
                check.due("13: SOUND " + k + " of " + size, x.ofRoot(5, k), k < size ? 15 - k : -9);
            }
        }
    }

    private void rootCells() {
        edge.below("12: n", 0, SIZE, v -> ready(0).root(0, 0, 0, 0, v));
        edge.taken("12: n", 0, 8, v -> ready(0).root(0, 0, 0, 0, v));
        edge.answered("12: n", 9, 60, OUTSIDE, v -> ready(0).root(0, 0, 0, 0, v));
        edge.above("12: n", 60, INDEX, v -> ready(0).root(0, 0, 0, 0, v));
        edge.range("12: i of no cells", 0, 60, INDEX, v -> ready(0).root(0, 0, 0, v, 0));
        edge.range("12: i of one cell", 0, 59, INDEX, v -> ready(0).root(0, 0, 0, v, 1));
        edge.range("12: i of eight cells", 0, 52, INDEX, v -> ready(0).root(0, 0, 0, v, 8));
        otherLanes("12: LANE ", (x, sheet, lane) -> x.root(0, sheet, lane, 3, 1));
    }

    private void law() {
        edge.range("14: SHEET", 0, 3, UNKNOWN, v -> readyText(0, v).law(3, v, 0, 0, 3));
        edge.range("14: lane", 0, 2, OUTSIDE, v -> readyText(v, 0).law(3, 0, v, 0, 3));
        edge.range("14: places of two", 0, 3, OUTSIDE, v -> readyText(0, 0).law(v, 0, 0, 0, 3));
        edge.range("14: places of none", 0, 0, OUTSIDE, v -> lawWhere(0, v));
        edge.range("14: places of one", 0, 1, OUTSIDE, v -> lawWhere(1, v));
        edge.range("14: places of seven", 0, 127, OUTSIDE, v -> lawWhere(7, v));
        edge.range("14: places of eight", 0, 255, OUTSIDE, v -> lawWhere(8, v));
    }

    private static long lawWhere(int places, int set) {
        return Check.law(Check.withPlaces(places), set, TEXT);
    }

    private void lawCells() {
        edge.below("14: n", 0, SIZE, v -> readyText(0, 0).law(3, 0, 0, 0, v));
        edge.answered("14: n", 0, 0, -100, v -> readyText(0, 0).law(3, 0, 0, 0, v));
        edge.answered("14: n", 1, 1, -101, v -> readyText(0, 0).law(3, 0, 0, 0, v));
        edge.answered("14: n", 2, 2, -102, v -> readyText(0, 0).law(3, 0, 0, 0, v));
        edge.answered("14: n", 3, 3, 1, v -> readyText(0, 0).law(3, 0, 0, 0, v));
        edge.answered("14: n", 4, 60, -103, v -> readyText(0, 0).law(3, 0, 0, 0, v));
        edge.above("14: n", 60, INDEX, v -> readyText(0, 0).law(3, 0, 0, 0, v));
        edge.below("14: i of no cells", 0, INDEX, v -> ready(0).law(3, 0, 0, v, 0));
        edge.answered("14: i of no cells", 0, 60, -100, v -> ready(0).law(3, 0, 0, v, 0));
        edge.above("14: i of no cells", 60, INDEX, v -> ready(0).law(3, 0, 0, v, 0));
        edge.below("14: i of three cells", 0, INDEX, v -> ready(0).law(3, 0, 0, v, 3));
        edge.answered("14: i of three cells", 0, 0, 1, v -> readyText(0, 0).law(3, 0, 0, v, 3));
        edge.answered("14: i of three cells", 1, 1, -100, v -> readyText(0, 0).law(3, 0, 0, v, 3));
        edge.answered("14: i of three cells", 2, 2, -101, v -> readyText(0, 0).law(3, 0, 0, v, 3));
        edge.answered("14: i of three cells", 3, 57, -100, v -> readyText(0, 0).law(3, 0, 0, v, 3));
        edge.above("14: i of three cells", 57, INDEX, v -> ready(0).law(3, 0, 0, v, 3));
        otherLanes("14: LANE ", (x, sheet, lane) -> x.law(3, sheet, lane, 0, 3));
    }

    private void force() {
        edge.range("15: LAW", 0, 0, UNKNOWN, v -> ready(0).force(v, 1));
        edge.range("15: LAW of eight", 0, 7, UNKNOWN, v -> Scene.full().force(v, 1));
        edge.range("15: places of two", 0, 3, OUTSIDE, v -> ready(0).force(0, v));
        edge.range("15: places of eight", 0, 255, OUTSIDE, v -> Scene.full().force(0, v));
        check.due("15: where there is no LAW", new DialectForms().force(0, 0), UNKNOWN);
        DialectForms x = new DialectForms();
        Check.law(x, 0, TEXT);
        check.due("15: where there is no PLACE", x.force(0, 1), OUTSIDE);
        check.due("15: where there is no PLACE", x.force(0, 0), 0);
    }

    private void derived() {
        edge.range("16: PLACE", 0, 1, UNKNOWN, v -> ready(0).derived(v, 0, 8, 0));
        edge.range("16: MEANING", 0, 5, UNKNOWN, v -> ready(0).derived(0, v, 8, 0));
        edge.range("16: n", 0, 8, OUTSIDE, v -> ready(0).derived(0, 0, v, 0));
        edge.range("16: k", -1, 7, UNKNOWN, v -> ready(0).derived(0, 0, 8, v));
        edge.range("17: PLACE", 0, 1, UNKNOWN, v -> ready(0).latest(v, 0));
        edge.range("17: MEANING", 0, 5, UNKNOWN, v -> ready(0).latest(0, v));
    }

    private void costs() {
        edge.range("18: GAP", 1, 20, OUTSIDE, v -> new DialectForms().gap(v));
        edge.range("19: the first FORM", 0, 1, UNKNOWN, v -> ready(0).cost(v, 0));
        edge.range("19: the second FORM", 0, 1, UNKNOWN, v -> ready(0).cost(0, v));
        edge.range("19: FORM of forty", 0, 39, UNKNOWN, v -> Scene.full().cost(v, 39));
        edge.range("20: the first FORM", 0, 1, UNKNOWN, v -> ready(0).align(v, 0, 0));
        edge.range("20: the second FORM", 0, 1, UNKNOWN, v -> ready(0).align(0, v, 0));
        edge.range("20: k", -1, 15, UNKNOWN, v -> ready(0).align(0, 1, v));
    }

    private void sought() {
        edge.range("21: MEANING", 0, 5, UNKNOWN, v -> saidForAll().sought(v, 7, 0));
        edge.range("21: k", -2, 2, UNKNOWN, v -> ready(0).sought(0, 7, v));
        edge.range("22: FORM", 0, 1, UNKNOWN, v -> ready(0).regular(v));
        edge.range("23: FORM", 0, 1, UNKNOWN, v -> ready(0).ways(v, 7));
        check.due("22: where there is no FORM", new DialectForms().regular(0), UNKNOWN);
        check.due("23: where there is no FORM", new DialectForms().ways(0, 1), UNKNOWN);
    }

    private static DialectForms saidForAll() {
        DialectForms x = Check.withPlaces(1);
        for (int m = 0; m < 6; m++) {
            Check.form(x, 0, 0, m, "a");
        }
        return x;
    }

    /** Sets of as many SOUNDS as there are, the least and the greatest ones, and one that is none among them. */
    private void sets() {
        DialectForms x = ready(0);
        for (int size = 0; size <= 16; size++) {
            int least = (1 << size) - 1;
            int greatest = least << 16 - size;
            boolean good = size >= 1 && size <= 5;
            for (int set : new int[] {least, greatest}) {
                check.isTrue("21: " + size + " SOUNDS", x.sought(0, set, -2) == OUTSIDE ^ good);
                check.isTrue("23: " + size + " SOUNDS", x.ways(0, set) == OUTSIDE ^ good);
            }
        }
        for (int s = 0; s < 32; s++) {
            int two = 1 << s | 1;
            check.isTrue("21: SOUND " + s + " in a set", x.sought(0, two, -2) == OUTSIDE ^ s < 16);
            check.isTrue("23: SOUND " + s + " in a set", x.ways(0, two) == OUTSIDE ^ s < 16);
        }
    }

    private void order() {
        edge.range("24: PLACE", 0, 1, UNKNOWN, v -> ready(0).order(v, 0));
        edge.range("24: k", -1, 7, UNKNOWN, v -> ready(0).order(0, v));
        check.due("24: where there is no PLACE", new DialectForms().order(0, 0), UNKNOWN);
    }

    private void groups() {
        edge.range("25: LIMIT", 0, 99, OUTSIDE, v -> new DialectForms().limit(v));
        edge.range("26: MEANING", 0, 5, UNKNOWN, v -> ready(0).group(v, 0));
        edge.range("26: PLACE, or all", -1, 1, UNKNOWN, v -> ready(0).group(0, v));
        edge.range("26: all, where there is no PLACE", -1, -1, UNKNOWN, v -> new DialectForms().group(0, v));
        edge.range("26: PLACE of eight, or all", -1, 7, UNKNOWN, v -> Check.withPlaces(8).group(0, v));
        edge.range("27: MEANING", 0, 5, UNKNOWN, v -> ready(0).border(v, 0));
        edge.range("27: k", -1, 27, UNKNOWN, v -> ready(0).border(0, v));
        edge.taken("28: the first PLACE of eight", 0, 6, v -> Check.withPlaces(8).bundle(v, 7));
        edge.below("28: the first PLACE of eight", 0, UNKNOWN, v -> Check.withPlaces(8).bundle(v, 7));
        edge.above("28: the first PLACE of eight", 7, UNKNOWN, v -> Check.withPlaces(8).bundle(v, 7));
        edge.taken("28: the second PLACE of eight", 1, 7, v -> Check.withPlaces(8).bundle(0, v));
        edge.below("28: the second PLACE of eight", 0, UNKNOWN, v -> Check.withPlaces(8).bundle(0, v));
        edge.above("28: the second PLACE of eight", 7, UNKNOWN, v -> Check.withPlaces(8).bundle(0, v));
        for (int p = 0; p < 8; p++) {
            check.due("28: PLACE " + p + " and itself", Check.withPlaces(8).bundle(p, p), OUTSIDE);
        }
        check.due("28: where there is no PLACE", new DialectForms().bundle(0, 0), UNKNOWN);
        check.due("28: where there is one PLACE", Check.withPlaces(1).bundle(0, 0), OUTSIDE);
    }

    private void area() {
        edge.range("29: LAW", 0, 0, UNKNOWN, v -> ready(0).area(v, 0));
        edge.range("29: LAW of eight", 0, 7, UNKNOWN, v -> Scene.full().area(v, 0));
        edge.range("29: PLACE, or all", -1, 1, UNKNOWN, v -> ready(0).area(0, v));
        edge.range("29: PLACE of eight, or all", -1, 7, UNKNOWN, v -> Scene.full().area(0, v));
        check.due("29: where there is no LAW", Check.withPlaces(1).area(0, -1), UNKNOWN);
    }

    private void sheets() {
        edge.range("30: SHEET", 0, 3, UNKNOWN, v -> new DialectForms().sheet(v, 0, 1));
        edge.range("30: lane", 0, 2, OUTSIDE, v -> new DialectForms().sheet(0, v, 1));
        edge.taken("30: n", 0, 60, v -> new DialectForms().sheet(3, 2, v));
        edge.below("30: n", 0, SIZE, v -> new DialectForms().sheet(0, 0, v));
        edge.above("30: n", 60, OUTSIDE, v -> new DialectForms().sheet(0, 0, v));
        edge.range("31: SHEET", 0, 3, UNKNOWN, v -> new DialectForms().lose(v));
        edge.range("31: SHEET that has a row", 0, 3, UNKNOWN, v -> ready(0).lose(v));
        edge.range("32: SHEET", 0, 3, UNKNOWN, v -> ready(0).put(v, 0, 1));
        edge.range("32: i", 0, 59, INDEX, v -> ready(0).put(0, v, 1));
        edge.range("32: i of one cell", 0, 0, INDEX, v -> sheetOf(1).put(0, v, 1));
        edge.answered("32: i of no cells", -2, 2, INDEX, v -> sheetOf(0).put(0, v, 1));
    }

    private static DialectForms sheetOf(int n) {
        DialectForms x = new DialectForms();
        x.sheet(0, 2, n);
        return x;
    }

    private void cells() {
        edge.range("33: SHEET", 0, 3, LOST, v -> ready(0).cell(v, 0, 0));
        edge.range("33: i", 0, 59, LOST, v -> ready(0).cell(0, v, 0));
        edge.range("33: i of one cell", 0, 0, LOST, v -> sheetOf(1).cell(0, v, 2));
        edge.answered("33: i of no cells", -2, 2, LOST, v -> sheetOf(0).cell(0, v, 2));
        edge.range("33: lane", 0, 2, LOST, v -> ready(v).cell(0, 0, v));
        for (int size = 0; size <= 60; size++) {
            DialectForms x = sheetOf(size);
            check.due("33: the last cell of " + size, x.cell(0, size - 1, 2), size == 0 ? LOST : 0);
            check.due("33: fault()", x.fault(), size == 0 ? 3 : 0);
            check.due("33: one more than " + size, x.cell(0, size, 2), LOST);
            check.due("33: fault()", x.fault(), 3);
        }
    }

    private void kinds() {
        edge.range("34: FORM", 0, 1, UNKNOWN, v -> ready(0).tell(v));
        edge.range("34: FORM of forty", 0, 39, UNKNOWN, v -> Scene.full().tell(v));
        edge.range("35: FORM", 0, 1, UNKNOWN, v -> ready(0).name(v));
        edge.range("35: FORM of forty", 0, 39, UNKNOWN, v -> Scene.full().name(v));
        edge.range("36: FORM", 0, 1, UNKNOWN, v -> ready(0).as(v, 0));
        edge.range("36: kind of a GUESS", 0, 2, OUTSIDE, v -> Scene.half().as(2, v));
        edge.range("39: what", 0, 3, OUTSIDE, v -> ready(0).many(v));
        check.due("34: where there is no FORM", new DialectForms().tell(0), UNKNOWN);
        check.due("35: where there is no FORM", new DialectForms().name(0), UNKNOWN);
        check.due("36: where there is no FORM", new DialectForms().as(0, 0), UNKNOWN);
    }
}
