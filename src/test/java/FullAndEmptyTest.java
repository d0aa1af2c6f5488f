/** All promises: nothing, one, as many as there may ever be, and one more; rows, sets and texts of nothing. */
public final class FullAndEmptyTest {
    private static final int UNKNOWN = -1, OUTSIDE = -2, STATE = -3, FULL = -4, NONE = -9;
    private static final int FIRST_FAULT = -100;
    private static final String EIGHT = "abcdefgh";

    private final Check check = new Check();

    public static void main(String[] args) {
        FullAndEmptyTest test = new FullAndEmptyTest();
        test.features();
        test.entries();
        test.lastEntryIsRead();
        test.places();
        test.nears();
        test.forms();
        test.formsByRead();
        test.formsOfNothing();
        test.longestReads();
        test.firstFaultsOfReads();
        test.roots();
        test.laws();
        test.texts();
        test.forces();
        test.derivedByAll();
        test.derivedFromNothing();
        test.latest();
        test.costs();
        test.columns();
        test.soughtOfNothing();
        test.soughtOfAll();
        test.lastRowSought();
        test.byAllLaws();
        test.regular();
        test.ways();
        test.ordersOfFewLaws();
        test.lastOrder();
        test.allMeanings();
        test.tooManyLaws();
        test.limits();
        test.groups();
        test.borders();
        test.bundles();
        test.areas();
        test.sheets();
        test.check.end();
    }

    private void spoken(String what, DialectForms x, int f, String due) {
        String got = Check.spoken(x, f);
        check.isTrue(what + " is " + got + ", due is " + due, got.equals(due));
    }

    private void derived(String what, DialectForms x, int n, String due) {
        String got = Check.derived(x, 0, 0, n);
        check.isTrue(what + " is " + got + ", due is " + due, got.equals(due));
    }

    private void features() {
        DialectForms x = new DialectForms();
        check.due("2: nothing was told", x.sound(0, 0, 0), 0);
        check.due("2: all yes", x.sound(0, 63, 0), 1);
        check.due("2: all no", x.sound(1, 0, 63), 1);
        for (int f = 0; f < 6; f++) {
            check.due("3: yes", x.feature(0, f), 1);
            check.due("3: no", x.feature(1, f), 0);
            check.due("3: not told", x.feature(2, f), NONE);
        }
        check.due("4: the most", x.differ(0, 1), 12);
        check.due("4: all told of just one", x.differ(0, 2), 6);
        check.due("4: all told of just one", x.differ(2, 1), 6);
        check.due("4: none told of both", x.differ(2, 3), 0);
        check.due("4: one alone", x.differ(0, 0), 0);
        check.due("2: nothing is told again", x.sound(0, 0, 0), 1);
        check.due("3: not told again", x.feature(0, 5), NONE);
        check.due("4: none told again", x.differ(0, 2), 0);
    }

    private void entries() {
        DialectForms x = new DialectForms();
        for (int c = 0; c < 3; c++) {
            for (int e = 1; e <= 10; e++) {
                check.due("5: ENTRY of COLLECTOR " + c, Check.entry(x, c, 'a', "xyz".substring(e % 3)), e);
            }
            check.due("5: an eleventh of COLLECTOR " + c, Check.entry(x, c, 'a', "x"), FULL);
            check.due("5: fault() of FULL", x.fault(), 0);
        }
        check.due("5: still FULL", Check.entry(x, 0, 'a', "x"), FULL);
    }

    private void lastEntryIsRead() {
        DialectForms x = Check.withPlaces(1);
        for (int e = 0; e < 9; e++) {
            Check.entry(x, 2, 'a', "x");
        }
        check.due("9: no ENTRY yet", Check.read(x, 2, 0, 0, "y"), FIRST_FAULT);
        check.due("5: the tenth", Check.entry(x, 2, 'p', "y"), 10);
        check.due("5: an eleventh", Check.entry(x, 2, 'b', "x"), FULL);
        check.due("5: an eleventh", Check.entry(x, 2, 'b', "z"), FULL);
        check.due("9: the tenth and the latest of the others", Check.read(x, 2, 0, 0, "yx"), 0);
        spoken("9: what is READ", x, 0, "pa");
        check.due("9: not by the eleventh", Check.read(x, 2, 0, 0, "yxz"), FIRST_FAULT - 2);
    }

    private void places() {
        DialectForms x = new DialectForms();
        check.due("39: no PLACE", x.many(0), 0);
        for (int p = 0; p < 8; p++) {
            check.due("11: there is none yet", x.said(p, 0), UNKNOWN);
            check.due("6: its number", x.place(), p);
            check.due("11: now there is", x.said(p, 0), NONE);
            check.due("39: PLACES", x.many(0), p + 1);
        }
        check.due("6: a ninth", x.place(), FULL);
        check.due("6: a tenth", x.place(), FULL);
        check.due("39: eight stay", x.many(0), 8);
        check.due("11: there is no ninth", x.said(8, 0), UNKNOWN);
    }

    private void nears() {
        DialectForms x = Check.withPlaces(8);
        for (int p = 0; p < 8; p++) {
            for (int q = p + 1; q < 8; q++) {
                check.due("7: not near at first", x.near(p, q, false), 0);
                check.due("7: not near at first", x.near(q, p, false), 0);
                check.due("7: they become near", x.near(q, p, true), 1);
                check.due("7: it was so", x.near(p, q, true), 0);
            }
        }
        check.due("7: no longer", x.near(0, 7, false), 1);
        check.due("7: the others are still", x.near(7, 1, true), 0);
    }

    private void forms() {
        DialectForms x = Check.withPlaces(8);
        check.due("39: no FORM", x.many(1), 0);
        for (int f = 0; f < 40; f++) {
            check.due("10: there is none yet", x.ofForm(f, 0), UNKNOWN);
            check.due("8: its number", Check.form(x, f % 3, f % 8, f % 6, EIGHT.substring(f % 8)), f);
            check.due("11: it is SAID", x.said(f % 8, f % 6), f);
        }
        check.due("8: one more", Check.form(x, 0, 7, 3, "p"), FULL);
        check.due("8: fault() of FULL", x.fault(), 0);
        check.due("39: forty stay", x.many(1), 40);
        check.due("11: the last is still SAID", x.said(7, 3), 39);
        check.due("10: there is no more", x.ofForm(40, 0), UNKNOWN);
        spoken("10: the first", x, 0, EIGHT);
        spoken("10: the last", x, 39, "h");
        check.due("10: its kind", x.ofForm(39, 0), 0);
        check.due("10: its PLACE", x.ofForm(39, 1), 7);
        check.due("10: its MEANING", x.ofForm(39, 2), 3);
    }

    private void formsByRead() {
        DialectForms x = Check.withPlaces(1);
        Check.entry(x, 0, 'c', "x");
        for (int f = 0; f < 39; f++) {
            check.due("8: its number", Check.form(x, 0, 0, 0, ""), f);
        }
        check.due("9: the fortieth", Check.read(x, 0, 0, 0, "xx"), 39);
        check.due("9: one more", Check.read(x, 0, 0, 0, "x"), FULL);
        check.due("9: one more of nothing", Check.read(x, 0, 0, 0, ""), FULL);
        check.due("9: FIRST FAULT ahead of FULL", Check.read(x, 0, 0, 0, "xxxxxxxxx"), FIRST_FAULT - 8);
        check.due("8: one more", Check.form(x, 0, 0, 0, ""), FULL);
        check.due("11: the fortieth is SAID", x.said(0, 0), 39);
        spoken("9: the fortieth", x, 39, "cc");
    }

    private void formsOfNothing() {
        DialectForms x = Check.withPlaces(1);
        x.sheet(0, 0, 0);
        check.due("8: of a row of no cells", x.form(1, 0, 0, 0, 0, 0, 0), 0);
        check.due("9: by a COLLECTOR without ENTRIES", x.read(2, 0, 1, 0, 0, 0, 0), 1);
        check.due("12: of a row of no cells", x.root(0, 0, 0, 0, 0), 0);
        check.due("5: no codes", x.entry(0, 0, 0, 0, 0, 0), OUTSIDE);
        check.due("14: no TEXT", x.law(0, 0, 0, 0, 0), FIRST_FAULT);
        check.due("8: one cell of none", x.form(0, 0, 0, 0, 0, 0, 1), -13);
        check.due("8: from 1 on", x.form(0, 0, 0, 0, 0, 1, 0), -13);
        check.due("8: from -1 on", x.form(0, 0, 0, 0, 0, -1, 0), -13);
        check.due("11: it is SAID", x.said(0, 0), 0);
        check.due("10: no SOUNDS", x.ofForm(0, 3), 0);
        check.due("10: no first one", x.ofForm(0, 10), OUTSIDE);
        check.due("13: no SOUNDS", x.ofRoot(0, -1), 0);
        check.due("13: no first one", x.ofRoot(0, 0), NONE);
    }

    private void longestReads() {
        DialectForms x = Check.withPlaces(1);
        Check.entry(x, 0, 'a', "xyz");
        Check.entry(x, 0, 'b', "x");
        String eight = "xyz".repeat(8);
        check.due("9: eight of three codes", Check.read(x, 0, 0, 0, eight), 0);
        spoken("9: eight of three codes", x, 0, "aaaaaaaa");
        check.due("9: a ninth", Check.read(x, 0, 0, 0, eight + "xyz"), FIRST_FAULT - 24);
        check.due("9: a ninth of one code", Check.read(x, 0, 0, 0, eight + "x"), FIRST_FAULT - 24);
        check.due("9: no ENTRY at the place of a ninth", Check.read(x, 0, 0, 0, eight + "w"), FIRST_FAULT - 24);
        check.due("9: sixty cells", Check.read(x, 0, 0, 0, "xyz".repeat(20)), FIRST_FAULT - 24);
        check.due("9: seven of three codes and one of one", Check.read(x, 0, 0, 0, eight.substring(0, 22)), 1);
        check.due("9: no ENTRY behind eight", Check.read(x, 0, 0, 0, eight.substring(0, 23)), FIRST_FAULT - 22);
        check.due("39: the others are no FORMS", x.many(1), 2);
    }

    private void firstFaultsOfReads() {
        DialectForms x = Check.withPlaces(1);
        Check.entry(x, 0, 'a', "x");
        for (int wrong = 0; wrong < 8; wrong++) {
            String codes = "xxxxxxxx".substring(0, wrong) + "y" + "yyyyyyyy".substring(wrong);
            check.due("9: the first place", Check.read(x, 0, 0, 0, codes), FIRST_FAULT - wrong);
            check.due("9: fault() tells no FIRST FAULT", x.fault(), 0);
        }
        // 'x' and 256 is no code, but becomes one where it is cut to a byte
        x.sheet(0, 2, 1);
        x.put(0, 0, 'x' + 256);
        check.due("9: not cut in a row of ints", x.read(0, 0, 0, 0, 2, 0, 1), FIRST_FAULT);
        x.sheet(0, 0, 1);
        x.put(0, 0, 'x' + 256);
        check.due("9: cut in a row of bytes", x.read(0, 0, 0, 0, 0, 0, 1), 0);
    }

    private void roots() {
        DialectForms x = new DialectForms();
        for (int m = 0; m < 6; m++) {
            check.due("39: ROOTS", x.many(3), m);
            check.due("13: none at first", x.ofRoot(m, -1), NONE);
            check.due("12: of eight", Check.root(x, m, EIGHT), 8);
            check.due("13: the last SOUND", x.ofRoot(m, 7), 7);
        }
        check.due("12: becomes nothing", Check.root(x, 0, ""), 0);
        check.due("39: is still one of six ROOTS", x.many(3), 6);
        for (int k = 0; k < 8; k++) {
            check.due("13: nothing stays of it", x.ofRoot(0, k), NONE);
        }
        check.due("13: of the others all", x.ofRoot(1, -1), 8);
    }

    private void laws() {
        DialectForms x = Check.withPlaces(1);
        check.due("39: no LAW", x.many(2), 0);
        for (int l = 0; l < 8; l++) {
            check.due("15: there is none yet", x.force(l, 0), UNKNOWN);
            check.due("14: its number", Check.law(x, 1, "a>b"), l);
        }
        check.due("14: a ninth", Check.law(x, 1, "b>c"), FULL);
        check.due("14: fault() of FULL", x.fault(), 0);
        check.due("14: a wrong TEXT ahead of FULL", Check.law(x, 1, "b>c/"), FIRST_FAULT - 4);
        check.due("39: eight stay", x.many(2), 8);
        check.due("15: there is no ninth", x.force(8, 0), UNKNOWN);
        Check.root(x, 0, "ab");
        derived("16: nothing is DONE by the ninth", x, 8, "bb");
        x.force(7, 0);
        check.due("14: ever: one that is in force nowhere counts", Check.law(x, 1, "b>c"), FULL);
    }

    private void texts() {
        DialectForms x = Check.withPlaces(1);
        check.due("14: the shortest TEXT", Check.law(x, 1, "a>b"), 0);
        check.due("14: the longest TEXT", Check.law(x, 1, "+0>b/-5_+5"), 1);
        check.due("14: one code more", Check.law(x, 1, "+0>b/-5_+55"), FIRST_FAULT - 10);
        check.due("14: one code less", Check.law(x, 1, "+0>b/-5_+"), FIRST_FAULT - 9);
        check.due("14: no code", Check.law(x, 1, ""), FIRST_FAULT);
        check.due("14: no left side", Check.law(x, 1, "+0>b/_+5"), 2);
        check.due("14: no right side", Check.law(x, 1, "+0>b/-5_"), 3);
        check.due("14: no sides", Check.law(x, 1, "+0>b/_"), 4);
        check.due("14: sixty codes", Check.law(x, 1, "a>b".repeat(20)), FIRST_FAULT - 3);
    }

    private void forces() {
        DialectForms x = Check.withPlaces(8);
        check.due("14: in force nowhere", Check.law(x, 0, "a>b"), 0);
        Check.root(x, 0, "a");
        derived("16: not there", x, 8, "a");
        check.due("15: everywhere", x.force(0, 255), 0);
        derived("16: there", x, 8, "b");
        check.due("15: at the last PLACE alone", x.force(0, 128), 255);
        check.due("16: there", x.derived(7, 0, 8, 0), 1);
        derived("16: not there", x, 8, "a");
        check.due("15: nowhere again", x.force(0, 0), 128);
        check.due("16: not there again", x.derived(7, 0, 8, 0), 0);
    }

    private void derivedByAll() {
        DialectForms x = Check.withPlaces(1);
        Check.root(x, 0, "aaaaaaaa");
        for (int l = 0; l < 8; l++) {
            derived("16: all, where there are fewer", x, 8, String.valueOf((char) ('a' + l)).repeat(8));
            Check.law(x, 1, (char) ('a' + l) + ">" + (char) ('b' + l));
        }
        for (int n = 0; n <= 8; n++) {
            derived("16: by the first " + n, x, n, String.valueOf((char) ('a' + n)).repeat(8));
        }
        check.due("16: the last SOUND", x.derived(0, 0, 8, 7), 8);
        x.force(0, 0);
        derived("16: the first n of those in force", x, 7, "aaaaaaaa");
        Check.root(x, 0, "b");
        derived("16: the first n of those in force", x, 6, "h");
        derived("16: the first n of those in force", x, 7, "i");
    }

    private void derivedFromNothing() {
        DialectForms x = Check.withPlaces(1);
        Check.root(x, 0, "");
        derived("16: no LAW", x, 8, "");
        Check.law(x, 1, "a>b/#_#");
        Check.law(x, 1, "+0>b/_");
        derived("16: of nothing nothing", x, 8, "");
        check.due("16: how many", x.derived(0, 0, 8, -1), 0);
        check.due("16: no first one", x.derived(0, 0, 8, 0), NONE);
        check.due("17: nothing is changed", x.latest(0, 0), NONE);
        Check.root(x, 0, "a");
        derived("16: nothing on both sides", x, 8, "b");
        Check.law(x, 1, "b>0");
        derived("16: it goes", x, 8, "");
        Check.root(x, 0, "bbbbbbbb");
        derived("16: all eight go", x, 8, "");
        check.due("17: by the LAW by which they go", x.latest(0, 0), 2);
    }

    private void latest() {
        DialectForms x = Check.withPlaces(1);
        Check.root(x, 0, "a");
        check.due("17: no LAW", x.latest(0, 0), NONE);
        Check.law(x, 1, "a>b");
        check.due("17: one", x.latest(0, 0), 0);
        for (int l = 1; l < 7; l++) {
            Check.law(x, 1, "a>b");
        }
        check.due("17: the first of seven", x.latest(0, 0), 0);
        Check.law(x, 1, "b>c");
        check.due("17: the last of eight", x.latest(0, 0), 7);
        x.force(7, 0);
        check.due("17: it is not in force", x.latest(0, 0), 0);
        x.force(0, 0);
        check.due("17: the first that is", x.latest(0, 0), 1);
    }

    private void costs() {
        DialectForms x = Check.withPlaces(1);
        x.sound(0, 63, 0);
        x.sound(1, 0, 63);
        Check.form(x, 0, 0, 0, "");
        Check.form(x, 0, 0, 0, "a");
        Check.form(x, 0, 0, 0, "aaaaaaaa");
        Check.form(x, 0, 0, 0, "bbbbbbbb");
        check.due("19: nothing and itself", x.cost(0, 0), 0);
        check.due("19: nothing and one, GAP as at first", x.cost(0, 1), 6);
        check.due("19: one and nothing", x.cost(1, 0), 6);
        check.due("19: eight and nothing", x.cost(2, 0), 48);
        check.due("19: a pair or both alone", x.cost(2, 3), 96);
        check.due("18: the greatest", x.gap(20), 6);
        check.due("19: eight and nothing", x.cost(2, 0), 160);
        check.due("19: eight pairs", x.cost(2, 3), 96);
        check.due("18: the least", x.gap(1), 20);
        check.due("19: eight and nothing", x.cost(0, 2), 8);
        check.due("19: sixteen alone", x.cost(2, 3), 16);
        check.due("18: one too small", x.gap(0), OUTSIDE);
        check.due("18: one too great", x.gap(21), OUTSIDE);
        check.due("19: as it was", x.cost(0, 2), 8);
    }

    private void columns() {
        DialectForms x = Check.withPlaces(1);
        x.sound(14, 63, 0);
        x.sound(15, 0, 63);
        Check.form(x, 0, 0, 0, "");
        Check.form(x, 0, 0, 0, "p");
        Check.form(x, 0, 0, 0, "pppppppp");
        Check.form(x, 0, 0, 0, "oooooooo");
        check.due("20: nothing and nothing", x.align(0, 0, -1), 0);
        check.due("20: no first one", x.align(0, 0, 0), NONE);
        check.due("20: nothing and one", x.align(0, 1, -1), 1);
        check.due("20: of the second alone", x.align(0, 1, 0), 16);
        check.due("20: of the first alone", x.align(1, 0, 0), 1600);
        check.due("20: there are fewer", x.align(1, 0, 1), NONE);
        check.due("20: eight pairs", x.align(2, 3, -1), 8);
        check.due("20: the last", x.align(2, 3, 7), 1615);
        check.due("20: there are fewer", x.align(2, 3, 8), NONE);
        x.gap(5);
        check.due("20: sixteen, the most", x.align(2, 3, -1), 16);
        check.due("20: the last of the first", x.align(2, 3, 7), 1600);
        check.due("20: the first of the second", x.align(2, 3, 8), 15);
        check.due("20: the last", x.align(2, 3, 15), 15);
        check.due("20: one more", x.align(2, 3, 16), UNKNOWN);
    }

    private void soughtOfNothing() {
        DialectForms x = Check.withPlaces(8);
        check.due("21: SAID nowhere", x.sought(0, 1, -2), STATE);
        Check.root(x, 0, "a");
        check.due("21: a ROOT is not SAID", x.sought(0, 1, -2), STATE);
        Check.form(x, 2, 7, 0, "");
        check.due("21: SAID at the last PLACE alone", x.sought(0, 1, -2), 0);
        check.due("21: nothing", x.sought(0, 1, -1), 0);
        for (int k = 0; k < 3; k++) {
            check.due("21: no SOUND " + k, x.sought(0, 1, k), NONE);
        }
        check.due("21: the other MEANINGS are SAID nowhere", x.sought(1, 1, -2), STATE);
    }

    private void soughtOfAll() {
        DialectForms x = Check.withPlaces(8);
        x.sound(0, 63, 0);
        x.sound(1, 0, 63);
        x.gap(20);
        for (int p = 0; p < 8; p++) {
            Check.form(x, p % 3, p, 5, "aaaaaaaa");
        }
        check.due("21: the COSTS of all PLACES", x.sought(5, 1, -2), 8 * 5 * 20);
        check.due("21: three SOUNDS", x.sought(5, 1, -1), 3);
        check.due("21: the least of a set in which none fits", x.sought(5, 2, -2), 8 * (5 * 20 + 3 * 12));
        check.due("21: the last SOUND", x.sought(5, 2, 2), 1);
        x.gap(1);
        check.due("21: the shortest, if it's as good", x.sought(5, 2, -1), 0);
        check.due("21: all alone", x.sought(5, 2, -2), 64);
    }

    /** Five SOUNDS that DIFFER, so that each row is the best for itself, be it the first or the last of all. */
    private void lastRowSought() {
        String[] rows = {"", "l", "p", "ll", "lp", "pl", "pp", "lll", "llp", "lpl", "pll", "nmo", "ppo", "opp", "ppp"};
        for (String row : rows) {
            DialectForms x = Check.withPlaces(1);
            for (int s = 11; s < 16; s++) {
                x.sound(s, 1 << s - 11, 63 & ~(1 << s - 11));
            }
            Check.form(x, 0, 0, 0, row);
            check.due("21: the row itself " + row, x.sought(0, 31 << 11, -2), 0);
            check.due("21: how many of " + row, x.sought(0, 31 << 11, -1), row.length());
            for (int k = 0; k < row.length(); k++) {
                check.due("21: " + row, x.sought(0, 31 << 11, k), row.charAt(k) - 'a');
            }
            check.due("23: one way", x.ways(0, 31 << 11), 1);
        }
    }

    private void byAllLaws() {
        DialectForms x = Check.withPlaces(8);
        for (int l = 0; l < 8; l++) {
            Check.law(x, 128, (char) ('a' + l) + ">" + (char) ('b' + l));
        }
        x.sound(7, 63, 0);
        x.sound(8, 0, 63);
        Check.root(x, 0, "a");
        Check.form(x, 0, 7, 0, "i");
        Check.form(x, 0, 0, 1, "i");
        check.due("22: by all eight LAWS", x.regular(0), 1);
        check.due("21: by all eight LAWS", x.sought(0, 1, -2), 0);
        check.due("21: one SOUND that becomes it", x.sought(0, 1, -1), 1);
        check.due("23: by all eight LAWS", x.ways(0, 1), 1);
        check.due("23: by those of its PLACE alone", x.ways(1, 1), 0);
        check.due("21: by those of the PLACE alone", x.sought(1, 1, -2), 6);
    }

    private void regular() {
        DialectForms x = Check.withPlaces(1);
        Check.form(x, 2, 0, 5, "");
        check.due("22: there is no ROOT", x.regular(0), STATE);
        Check.root(x, 4, "");
        check.due("22: another's ROOT", x.regular(0), STATE);
        Check.root(x, 5, "");
        check.due("22: nothing from nothing", x.regular(0), 1);
        Check.root(x, 5, "a");
        check.due("22: nothing from one", x.regular(0), 0);
        Check.law(x, 1, "a>0");
        check.due("22: one that goes", x.regular(0), 1);
        Check.form(x, 0, 0, 5, "aaaaaaaa");
        Check.root(x, 5, "aaaaaaaa");
        check.due("22: eight that go", x.regular(1), 0);
        x.force(0, 0);
        check.due("22: eight", x.regular(1), 1);
        Check.root(x, 5, "aaaaaaab");
        check.due("22: the last is another", x.regular(1), 0);
        Check.root(x, 5, "aaaaaaa");
        check.due("22: one too few", x.regular(1), 0);
    }

    private void ways() {
        DialectForms x = Check.withPlaces(1);
        Check.form(x, 0, 0, 0, "");
        Check.form(x, 0, 0, 0, "aaa");
        Check.form(x, 0, 0, 0, "aaaa");
        check.due("23: nothing", x.ways(0, 31), 1);
        check.due("23: three", x.ways(1, 1), 1);
        check.due("23: not with another SOUND", x.ways(1, 2), 0);
        check.due("23: four are too many", x.ways(2, 31), 0);
        for (char s = 'a'; s <= 'e'; s++) {
            Check.law(x, 1, s + ">0");
        }
        check.due("23: all rows of one SOUND", x.ways(0, 1), 4);
        check.due("23: all rows of two", x.ways(0, 3), 15);
        check.due("23: all rows of five", x.ways(0, 31), 156);
        check.due("23: none", x.ways(1, 31), 0);
    }

    private void ordered(DialectForms x, int meanings, int... due) {
        check.due("24: how many MEANINGS", x.order(0, -1), meanings);
        for (int k = 0; k < 8; k++) {
            check.due("24: LAW " + k, x.order(0, k), k < due.length ? due[k] : NONE);
        }
    }

    private void ordersOfFewLaws() {
        DialectForms x = Check.withPlaces(1);
        ordered(x, 0);
        Check.form(x, 0, 0, 0, "a");
        ordered(x, 0);
        Check.root(x, 0, "a");
        ordered(x, 1);
        Check.law(x, 0, "a>b");
        ordered(x, 1);
        Check.law(x, 1, "a>b");
        ordered(x, 0, 1);
        Check.form(x, 1, 0, 0, "b");
        ordered(x, 1, 1);
        Check.root(x, 1, "a");
        ordered(x, 1, 1);
    }

    private void lastOrder() {
        DialectForms x = Check.withPlaces(1);
        for (char s = 'f'; s >= 'a'; s--) {
            Check.law(x, 1, s + ">" + (char) (s + 1));
        }
        Check.root(x, 0, "a");
        Check.form(x, 0, 0, 0, "g");
        ordered(x, 1, 5, 4, 3, 2, 1, 0);
        Check.form(x, 0, 0, 0, "b");
        ordered(x, 1, 0, 1, 2, 3, 4, 5);
    }

    private void allMeanings() {
        DialectForms x = Check.withPlaces(1);
        Check.law(x, 1, "b>c");
        Check.law(x, 1, "a>b");
        for (int m = 0; m < 6; m++) {
            Check.root(x, m, "a");
            Check.form(x, 0, 0, m, m < 3 ? "b" : "c");
            if (m == 2) {
                ordered(x, 3, 0, 1);
            }
        }
        // three by each: the first
        ordered(x, 3, 0, 1);
        Check.form(x, 0, 0, 0, "c");
        ordered(x, 4, 1, 0);
        for (int m = 1; m < 3; m++) {
            Check.form(x, 0, 0, m, "c");
        }
        ordered(x, 6, 1, 0);
    }

    private void tooManyLaws() {
        DialectForms x = Check.withPlaces(2);
        for (int l = 0; l < 8; l++) {
            check.due("24: " + l + " LAWS", x.order(0, -1), l <= 6 ? 0 : STATE);
            Check.law(x, 1, "a>b");
        }
        check.due("24: eight LAWS", x.order(0, 0), STATE);
        check.due("24: none of them in force there", x.order(1, 0), NONE);
        x.force(0, 2);
        check.due("24: seven LAWS", x.order(0, 0), STATE);
        x.force(1, 2);
        check.due("24: six LAWS, the first", x.order(0, 0), 2);
        check.due("24: six LAWS, the last", x.order(0, 5), 7);
        check.due("24: no seventh", x.order(0, 6), NONE);
    }

    /** Six SOUNDS beside one: five are alone, with a GAP of 19, and a pair DIFFERS by told. */
    private static DialectForms costing(int told) {
        DialectForms x = Check.withPlaces(2);
        x.gap(19);
        x.sound(0, 3, 0);
        x.sound(1, told == 4 ? 0 : 4, 3);
        Check.form(x, 0, 0, 0, "aaaaaa");
        Check.form(x, 0, 1, 0, "b");
        x.near(0, 1, true);
        return x;
    }

    private void like(DialectForms x, boolean like) {
        check.due("26: GROUPS", x.group(0, -1), like ? 1 : 2);
        check.due("26: the least PLACE", x.group(0, 1), like ? 0 : 1);
        check.due("27: BORDERS", x.border(0, -1), like ? 0 : 1);
        check.due("28: BUNDLE", x.bundle(0, 1), like ? 0 : 1);
    }

    private void limits() {
        DialectForms x = costing(4);
        check.due("19: COST", x.cost(0, 1), 99);
        like(x, false);
        x.limit(98);
        like(x, false);
        check.due("25: the greatest", x.limit(99), 98);
        like(x, true);
        x = costing(5);
        check.due("19: COST", x.cost(0, 1), 100);
        x.limit(99);
        like(x, false);
        check.due("25: one too great", x.limit(100), OUTSIDE);
        like(x, false);
        Check.form(x, 0, 0, 0, "b");
        check.due("25: the least", x.limit(0), 99);
        like(x, true);
        check.due("25: one too small", x.limit(-1), OUTSIDE);
        x.sound(2, 4, 35);
        Check.form(x, 0, 0, 0, "c");
        check.due("19: COST", x.cost(1, x.said(0, 0)), 1);
        like(x, false);
        x.limit(1);
        like(x, true);
    }

    /** At each PLACE one SOUND more than at the one ahead of it: with a GAP of 2 just those beside one another are LIKE. */
    private static DialectForms chain() {
        DialectForms x = Check.withPlaces(8);
        x.gap(2);
        for (int p = 0; p < 8; p++) {
            Check.form(x, 0, p, 0, "aaaaaaaa".substring(0, p));
        }
        return x;
    }

    private void groups() {
        check.due("26: no PLACE", new DialectForms().group(0, -1), 0);
        check.due("26: nothing SAID", Check.withPlaces(8).group(0, -1), 0);
        DialectForms x = chain();
        check.due("26: all joined", x.group(0, -1), 1);
        for (int p = 0; p < 8; p++) {
            check.due("26: all joined", x.group(0, p), 0);
        }
        x.limit(1);
        check.due("26: each alone", x.group(0, -1), 8);
        for (int p = 0; p < 8; p++) {
            check.due("26: each alone", x.group(0, p), p);
        }
        check.due("26: another MEANING", x.group(5, -1), 0);
        check.due("26: another MEANING", x.group(5, 7), NONE);
        Check.form(x, 0, 7, 5, "");
        check.due("26: one", x.group(5, -1), 1);
        check.due("26: one", x.group(5, 7), 7);
        check.due("26: not SAID", x.group(5, 0), NONE);
    }

    private void borders() {
        check.due("27: no PLACE", new DialectForms().border(0, -1), 0);
        check.due("27: no PLACE", new DialectForms().border(0, 0), NONE);
        DialectForms x = chain();
        x.limit(1);
        check.due("27: none is near", x.border(0, -1), 0);
        x.near(7, 6, true);
        check.due("27: one", x.border(0, -1), 1);
        check.due("27: one", x.border(0, 0), 67);
        check.due("27: no other", x.border(0, 1), NONE);
        for (int p = 0; p < 8; p++) {
            for (int q = 0; q < p; q++) {
                x.near(p, q, true);
            }
        }
        check.due("27: all", x.border(0, -1), 28);
        check.due("27: the first", x.border(0, 0), 1);
        check.due("27: the last", x.border(0, 27), 67);
        check.due("27: one more", x.border(0, 28), UNKNOWN);
        x.limit(99);
        check.due("27: all LIKE", x.border(0, -1), 0);
        check.due("27: all LIKE", x.border(0, 27), NONE);
    }

    private void bundles() {
        DialectForms x = Check.withPlaces(8);
        for (int m = 0; m < 6; m++) {
            check.due("28: so many", x.bundle(7, 0), m);
            Check.form(x, 0, 0, m, "");
            check.due("28: SAID at one alone", x.bundle(7, 0), m);
            Check.form(x, 0, 7, m, "a");
        }
        check.due("28: all MEANINGS", x.bundle(0, 7), 6);
        x.limit(6);
        check.due("28: LIKE for all", x.bundle(0, 7), 0);
    }

    private void areas() {
        DialectForms x = Check.withPlaces(8);
        Check.law(x, 0, "a>b");
        check.due("29: nowhere", x.area(0, -1), 0);
        check.due("29: nowhere", x.area(0, 7), NONE);
        x.force(0, 128);
        check.due("29: one", x.area(0, -1), 1);
        check.due("29: one", x.area(0, 7), 7);
        check.due("29: not in force", x.area(0, 6), NONE);
        x.force(0, 255);
        check.due("29: each alone", x.area(0, -1), 8);
        check.due("29: each alone", x.area(0, 7), 7);
        for (int p = 0; p < 7; p++) {
            x.near(p, p + 1, true);
        }
        check.due("29: all joined", x.area(0, -1), 1);
        for (int p = 0; p < 8; p++) {
            check.due("29: all joined", x.area(0, p), 0);
        }
        x.force(0, 255 - 16);
        check.due("29: two, though both are near to one between", x.area(0, -1), 2);
        check.due("29: the second", x.area(0, 7), 5);
    }

    private void sheets() {
        DialectForms x = new DialectForms();
        for (int k = 0; k < 4; k++) {
            check.due("31: nothing at first", x.lose(k), 0);
            check.due("30: a row of none", x.sheet(k, 1, 0), 1);
            check.due("31: it is something", x.lose(k), 1);
            check.due("31: nothing again", x.lose(k), 0);
            check.due("32: NULL", x.put(k, 0, 1), -11);
            check.due("30: the longest row", x.sheet(k, 2, 60), 1);
            check.due("30: 0 at first", x.cell(k, 0, 2), 0);
            check.due("30: 0 at first", x.cell(k, 59, 2), 0);
            check.due("32: the last cell", x.put(k, 59, k + 1), 1);
            check.due("33: it stays", x.cell(k, 59, 2), k + 1);
            check.due("33: the first", x.cell(k, 0, 2), 0);
        }
        check.due("31: one loses its row", x.lose(1), 1);
        check.due("33: the others keep theirs", x.cell(2, 59, 2), 3);
        check.due("30: a new row", x.sheet(1, 2, 60), 1);
        check.due("30: nothing stays of the one that was lost", x.cell(1, 59, 2), 0);
    }
}
