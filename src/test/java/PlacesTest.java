/** Promises 6 to 13: places, forms. */
public final class PlacesTest {
    public static void main(String[] args) {
        Check check = new Check();
        place(check);
        near(check);
        form(check);
        formRefusals(check);
        read(check);
        readRefusals(check);
        ofForm(check);
        said(check);
        root(check);
        rootRefusals(check);
        ofRoot(check);
        check.end();
    }

    private static void place(Check check) {
        DialectForms x = new DialectForms();
        for (int p = 0; p < 8; p++) {
            check.due("6: PLACE", x.place(), p);
        }
        check.due("6: a ninth", x.place(), -4);
        check.due("6: FULL changes nothing", x.many(0), 8);
    }

    private static void near(Check check) {
        DialectForms x = Check.withPlaces(3);
        check.due("7: not near at first", x.near(0, 1, false), 0);
        check.due("7: they become near", x.near(0, 1, true), 1);
        check.due("7: to one another", x.near(1, 0, true), 0);
        check.due("7: not the others", x.near(1, 2, false), 0);
        check.due("7: no longer", x.near(1, 0, false), 1);
        check.due("7: to one another", x.near(0, 1, false), 0);
        check.due("7: both are one", x.near(1, 1, true), -2);
        check.due("7: both are one", x.near(1, 1, false), -2);
        check.due("7: UNKNOWN ahead of OUTSIDE", x.near(3, 3, true), -1);
        check.due("7: no PLACE", x.near(0, 3, true), -1);
        check.due("7: no PLACE", x.near(-1, 0, true), -1);
    }

    private static void form(Check check) {
        DialectForms x = Check.withPlaces(2);
        check.due("8: the first", Check.form(x, 0, 0, 0, "ab"), 0);
        check.due("8: a LOAN", Check.form(x, 1, 1, 5, ""), 1);
        check.due("8: a GUESS", Check.form(x, 2, 0, 0, "ponmlkji"), 2);
        check.isTrue("8: ab", Check.spoken(x, 0).equals("ab"));
        check.isTrue("8: nothing", Check.spoken(x, 1).equals(""));
        check.isTrue("8: eight", Check.spoken(x, 2).equals("ponmlkji"));
        x.sheet(0, 0, 4);
        x.put(0, 2, 9);
        check.due("8: from i on", x.form(0, 1, 1, 0, 0, 1, 2), 3);
        check.isTrue("8: the cells from i on", Check.spoken(x, 3).equals("aj"));
        x.put(0, 2, 8);
        check.isTrue("8: what is told stays", Check.spoken(x, 3).equals("aj"));
        for (int f = 4; f < 40; f++) {
            check.due("8: FORM", x.form(0, 0, 0, 0, 0, 0, 0), f);
        }
        check.due("8: SOUND ahead of FULL", Check.form(x, 0, 0, 0, "q"), -1);
        check.due("8: one more than 40", x.form(0, 0, 0, 0, 0, 0, 0), -4);
        check.due("8: FULL changes nothing", x.many(1), 40);
    }

    private static void formRefusals(Check check) {
        DialectForms x = Check.withPlaces(1);
        check.due("8: PLACE ahead of kind", x.form(3, 1, 0, 0, 0, 0, 0), -1);
        check.due("8: MEANING ahead of kind", x.form(3, 0, 6, 0, 0, 0, 0), -1);
        check.due("8: MEANING", x.form(0, 0, -1, 0, 0, 0, 0), -1);
        check.due("8: SHEET ahead of lane", x.form(0, 0, 0, 4, 3, 0, 0), -1);
        check.due("8: kind ahead of NULL", x.form(3, 0, 0, 0, 0, 0, 0), -2);
        check.due("8: kind", x.form(-1, 0, 0, 0, 0, 0, 0), -2);
        check.due("8: lane ahead of NULL", x.form(0, 0, 0, 0, 3, 0, 0), -2);
        check.due("8: NULL", x.form(0, 0, 0, 0, 0, 0, 0), -11);
        check.due("8: fault", x.fault(), 1);
        x.sheet(0, 2, 9);
        check.due("8: CAST", x.form(0, 0, 0, 0, 0, 0, 0), -12);
        check.due("8: fault", x.fault(), 2);
        check.due("8: SIZE", x.form(0, 0, 0, 0, 2, 10, -1), -14);
        check.due("8: fault", x.fault(), 4);
        check.due("8: INDEX though none is taken", x.form(0, 0, 0, 0, 2, 10, 0), -13);
        check.due("8: fault", x.fault(), 3);
        check.due("8: INDEX ahead of n", x.form(0, 0, 0, 0, 2, 1, 9), -13);
        x.put(0, 8, 16);
        check.due("8: n ahead of a SOUND", x.form(0, 0, 0, 0, 2, 0, 9), -2);
        check.due("8: fault of a refusal", x.fault(), 0);
        check.due("8: no SOUND 16", x.form(0, 0, 0, 0, 2, 8, 1), -1);
        x.put(0, 8, -1);
        check.due("8: no SOUND -1", x.form(0, 0, 0, 0, 2, 8, 1), -1);
        x.form(0, 0, 0, 0, 0, 0, 0);
        check.due("8: a refusal ahead of the FAULTS", x.form(0, 1, 0, 0, 2, 0, 0), -1);
        check.due("8: fault of a refusal", x.fault(), 0);
        check.due("8: refusals change nothing", x.many(1), 0);
        check.due("8: at the end, none taken", x.form(0, 0, 0, 0, 2, 9, 0), 0);
    }

    private static void read(Check check) {
        DialectForms x = Check.withPlaces(2);
        Check.entry(x, 0, 'a', "x");
        Check.entry(x, 0, 'b', "xyz");
        Check.entry(x, 0, 'c', "xy");
        Check.entry(x, 0, 'd', "y");
        Check.entry(x, 0, 'e', "xy");
        Check.entry(x, 1, 'f', "x");
        check.due("9: READ", Check.read(x, 0, 1, 2, "xyzxyyxx"), 0);
        check.isTrue("9: the longest, of several the latest", Check.spoken(x, 0).equals("bedaa"));
        check.due("9: its kind", x.ofForm(0, 0), 0);
        check.due("9: its PLACE", x.ofForm(0, 1), 1);
        check.due("9: its MEANING", x.ofForm(0, 2), 2);
        check.due("9: nothing", Check.read(x, 2, 0, 0, ""), 1);
        check.due("9: another COLLECTOR's", Check.read(x, 1, 0, 0, "xx"), 2);
        check.isTrue("9: another COLLECTOR's", Check.spoken(x, 2).equals("ff"));
        check.due("9: no ENTRY at the front", Check.read(x, 0, 0, 0, "zx"), -100);
        check.due("9: no ENTRY behind", Check.read(x, 0, 0, 0, "xyzz"), -103);
        check.due("9: an ENTRY that would go on behind the cells", Check.read(x, 0, 0, 0, "xxy"), 3);
        check.isTrue("9: ends with them", Check.spoken(x, 3).equals("ae"));
        check.due("9: eight", Check.read(x, 0, 0, 0, "xyxyxyxyxyxyxyxyz"), 4);
        check.isTrue("9: eight", Check.spoken(x, 4).equals("eeeeeeeb"));
        check.due("9: a ninth", Check.read(x, 0, 0, 0, "xyxyxyxyxyxyxyxyx"), -116);
        check.due("9: a fault ahead of the ninth", Check.read(x, 0, 0, 0, "xxxxxzxxxxx"), -105);
        Check.cells(x, 0, 'z', 'x', -1, 'x');
        check.due("9: places are counted from i on", x.read(0, 0, 0, 0, 2, 1, 3), -101);
        check.due("9: fault() tells no FIRST FAULT", x.fault(), 0);
        Check.entry(x, 2, 'a', "xy");
        Check.entry(x, 2, 'b', "xyz");
        Check.entry(x, 2, 'c', "zw");
        check.due("9: the longest, though a shorter one would go on", Check.read(x, 2, 0, 0, "xyzw"), -103);
    }

    private static void readRefusals(Check check) {
        DialectForms x = Check.withPlaces(1);
        check.due("9: COLLECTOR", x.read(3, 0, 0, 0, 3, 0, 0), -1);
        check.due("9: COLLECTOR", x.read(-1, 0, 0, 0, 0, 0, 0), -1);
        check.due("9: PLACE", x.read(0, 1, 0, 0, 3, 0, 0), -1);
        check.due("9: MEANING", x.read(0, 0, 6, 0, 3, 0, 0), -1);
        check.due("9: SHEET", x.read(0, 0, 0, 4, 3, 0, 0), -1);
        check.due("9: lane", x.read(0, 0, 0, 0, 3, 0, 0), -2);
        check.due("9: NULL", x.read(0, 0, 0, 0, 0, 0, -1), -11);
        x.sheet(0, 0, 60);
        check.due("9: CAST", x.read(0, 0, 0, 0, 1, 0, -1), -12);
        check.due("9: fault", x.fault(), 2);
        check.due("9: SIZE", x.read(0, 0, 0, 0, 0, 61, -1), -14);
        check.due("9: INDEX", x.read(0, 0, 0, 0, 0, 61, 0), -13);
        check.due("9: fault", x.fault(), 3);
        check.due("9: a refusal ahead of the FAULTS", x.read(0, 1, 0, 0, 0, 0, 0), -1);
        check.due("9: fault of a refusal", x.fault(), 0);
        Check.entry(x, 0, 'a', "x");
        for (int f = 0; f < 40; f++) {
            check.due("9: FORM", x.read(0, 0, 0, 0, 0, 60, 0), f);
        }
        check.due("9: FIRST FAULT ahead of FULL", Check.read(x, 0, 0, 0, "xy"), -101);
        check.due("9: FULL", Check.read(x, 0, 0, 0, "x"), -4);
    }

    private static void ofForm(Check check) {
        DialectForms x = Check.withPlaces(2);
        Check.form(x, 2, 1, 3, "cab");
        int[] due = {2, 1, 3, 3};
        for (int what = 0; what < 4; what++) {
            check.due("10: of a FORM " + what, x.ofForm(0, what), due[what]);
        }
        check.due("10: the first SOUND", x.ofForm(0, 10), 2);
        check.due("10: the last SOUND", x.ofForm(0, 12), 1);
        for (int bad : new int[] {-1, 4, 9, 13, 17, 18, Integer.MIN_VALUE, Integer.MAX_VALUE}) {
            check.due("10: OUTSIDE " + bad, x.ofForm(0, bad), -2);
        }
        check.due("10: no FORM", x.ofForm(1, 99), -1);
        check.due("10: no FORM", x.ofForm(-1, 0), -1);
    }

    private static void said(Check check) {
        DialectForms x = Check.withPlaces(2);
        check.due("11: not SAID", x.said(0, 0), -9);
        Check.form(x, 0, 0, 0, "a");
        Check.form(x, 2, 0, 0, "b");
        Check.form(x, 0, 1, 5, "c");
        check.due("11: the latest, of whatever kind", x.said(0, 0), 1);
        check.due("11: elsewhere", x.said(1, 5), 2);
        check.due("11: not there", x.said(1, 0), -9);
        check.due("11: not for that", x.said(0, 5), -9);
        check.due("11: no PLACE", x.said(2, 0), -1);
        check.due("11: no PLACE", x.said(-1, 0), -1);
        check.due("11: no MEANING", x.said(0, 6), -1);
        check.due("11: no MEANING", x.said(0, -1), -1);
    }

    private static void root(Check check) {
        DialectForms x = new DialectForms();
        check.due("12: a ROOT", Check.root(x, 0, "abc"), 3);
        check.due("12: how many ROOTS", x.many(3), 1);
        check.due("12: another", Check.root(x, 0, "p"), 1);
        check.due("12: of the same MEANING", x.many(3), 1);
        check.due("12: becomes", x.ofRoot(0, 0), 15);
        check.due("12: shorter", x.ofRoot(0, 1), -9);
        check.due("12: a ROOT of nothing", Check.root(x, 5, ""), 0);
        check.due("12: is a ROOT", x.many(3), 2);
        check.due("12: eight", Check.root(x, 1, "abcdefgh"), 8);
        check.due("12: nine", Check.root(x, 1, "abcdefghi"), -2);
        check.due("12: no SOUND", Check.root(x, 1, "aq"), -1);
        check.due("12: refusals change nothing", x.ofRoot(1, -1), 8);
    }

    private static void rootRefusals(Check check) {
        DialectForms x = new DialectForms();
        check.due("12: MEANING", x.root(6, 0, 3, 0, 0), -1);
        check.due("12: MEANING", x.root(-1, 0, 0, 0, 0), -1);
        check.due("12: SHEET", x.root(0, 4, 3, 0, 0), -1);
        check.due("12: lane", x.root(0, 0, 3, 0, 0), -2);
        check.due("12: NULL", x.root(0, 0, 0, 0, -1), -11);
        check.due("12: fault", x.fault(), 1);
        x.sheet(0, 1, 9);
        check.due("12: CAST", x.root(0, 0, 0, 0, -1), -12);
        check.due("12: SIZE", x.root(0, 0, 1, 10, -1), -14);
        check.due("12: INDEX", x.root(0, 0, 1, 10, 0), -13);
        check.due("12: fault", x.fault(), 3);
        check.due("12: a refusal ahead of the FAULTS", x.root(0, 0, 3, 0, 0), -2);
        check.due("12: fault of a refusal", x.fault(), 0);
        x.put(0, 0, 16);
        check.due("12: n ahead of a SOUND", x.root(0, 0, 1, 0, 9), -2);
        check.due("12: a SOUND", x.root(0, 0, 1, 0, 8), -1);
        check.due("12: fault of a refusal", x.fault(), 0);
        check.due("12: there is no ROOT still", x.many(3), 0);
    }

    private static void ofRoot(Check check) {
        DialectForms x = new DialectForms();
        check.due("13: there is no ROOT", x.ofRoot(0, -1), -9);
        check.due("13: there is no ROOT", x.ofRoot(0, 0), -9);
        Check.root(x, 0, "ba");
        check.due("13: how many", x.ofRoot(0, -1), 2);
        check.due("13: the first", x.ofRoot(0, 0), 1);
        check.due("13: the second", x.ofRoot(0, 1), 0);
        check.due("13: no third", x.ofRoot(0, 2), -9);
        check.due("13: k 7", x.ofRoot(0, 7), -9);
        check.due("13: k 8", x.ofRoot(0, 8), -1);
        check.due("13: k -2", x.ofRoot(0, -2), -1);
        check.due("13: no MEANING", x.ofRoot(6, 0), -1);
        check.due("13: no MEANING", x.ofRoot(-1, 0), -1);
        Check.root(x, 5, "");
        check.due("13: a ROOT of nothing", x.ofRoot(5, -1), 0);
    }
}
