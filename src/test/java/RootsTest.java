/** Promises 21 to 24: roots. */
public final class RootsTest {
    public static void main(String[] args) {
        Check check = new Check();
        sought(check);
        soughtTies(check);
        soughtOfMeanings(check);
        soughtRefusals(check);
        regular(check);
        ways(check);
        waysRefusals(check);
        order(check);
        orderOfEachPlace(check);
        orderTies(check);
        orderRefusals(check);
        check.end();
    }

    private static void found(Check check, DialectForms x, int set, int costs, String due) {
        check.due("21: COSTS", x.sought(0, set, -2), costs);
        check.due("21: how many", x.sought(0, set, -1), due.length());
        for (int k = 0; k < 3; k++) {
            check.due("21: SOUND " + k, x.sought(0, set, k), k < due.length() ? due.charAt(k) - 'a' : -9);
        }
    }

    private static void sought(Check check) {
        DialectForms x = Check.withPlaces(3);
        x.sound(0, 63, 0);
        x.sound(1, 0, 63);
        x.sound(2, 7, 56);
        Check.form(x, 0, 0, 0, "cab");
        found(check, x, 0b111, 0, "cab");
        found(check, x, 0b011, 6, "ab");
        Check.law(x, 2, "a>b");
        Check.form(x, 2, 1, 0, "cbb");
        found(check, x, 0b111, 0, "cab");
        Check.form(x, 0, 2, 0, "cb");
        found(check, x, 0b111, 6, "cab");
        x.gap(1);
        found(check, x, 0b111, 1, "cab");
        Check.form(x, 0, 0, 0, "aaaaaaaa");
        Check.form(x, 0, 1, 0, "bbbbbbbb");
        Check.form(x, 1, 2, 0, "aaa");
        found(check, x, 0b111, 10, "aaa");
        found(check, x, 0b1, 10, "aaa");
    }

    private static void soughtTies(Check check) {
        DialectForms x = Check.withPlaces(2);
        x.sound(0, 63, 0);
        x.sound(1, 0, 63);
        Check.form(x, 0, 0, 0, "");
        found(check, x, 0b11, 0, "");
        Check.law(x, 1, "b>0");
        found(check, x, 0b11, 0, "");
        Check.form(x, 0, 0, 0, "a");
        found(check, x, 0b11, 0, "a");
        Check.form(x, 0, 0, 0, "aa");
        Check.form(x, 0, 1, 0, "bbaa");
        // b is SAID twice at the second PLACE, but a row has three SOUNDS at the most
        found(check, x, 0b11, 6, "baa");
        // e costs as much beside a SOUND as that alone: the shortest
        found(check, x, 0b10000, 36, "");
        Check.form(x, 0, 0, 0, "c");
        Check.form(x, 0, 1, 0, "d");
        // those of which nothing is told DIFFER by nothing: the first as a row
        found(check, x, 0b1101100000000000, 0, "l");
        found(check, x, 0b1111100000000000, 0, "l");
    }

    private static void soughtOfMeanings(Check check) {
        DialectForms x = Check.withPlaces(2);
        x.sound(0, 63, 0);
        x.sound(1, 0, 63);
        Check.form(x, 0, 0, 5, "ab");
        Check.form(x, 0, 1, 5, "ab");
        Check.form(x, 0, 1, 4, "b");
        check.due("21: another MEANING's COSTS", x.sought(5, 3, -2), 0);
        check.due("21: another MEANING's row", x.sought(5, 3, -1), 2);
        check.due("21: SAID at one PLACE alone", x.sought(4, 3, -2), 0);
        check.due("21: SAID at one PLACE alone", x.sought(4, 3, 0), 1);
    }

    private static void soughtRefusals(Check check) {
        DialectForms x = Check.withPlaces(1);
        Check.form(x, 0, 0, 0, "a");
        check.due("21: MEANING", x.sought(6, 0, 0), -1);
        check.due("21: MEANING", x.sought(-1, 1, 0), -1);
        check.due("21: k -3 ahead of the set", x.sought(0, 0, -3), -1);
        check.due("21: k 3", x.sought(0, 1, 3), -1);
        check.due("21: no SOUND ahead of STATE", x.sought(1, 0, 0), -2);
        check.due("21: six SOUNDS", x.sought(0, 63, 0), -2);
        check.due("21: what is no SOUND", x.sought(0, 1 << 16, 0), -2);
        check.due("21: what is no SOUND", x.sought(0, 1 << 31 | 1, 0), -2);
        check.due("21: SAID nowhere", x.sought(1, 1, -2), -3);
        check.due("21: five SOUNDS", x.sought(0, 31, 0), 0);
        check.due("21: the last SOUND", x.sought(0, 1 << 15, 0), 15);
        check.due("21: no ROOT is made", x.many(3), 0);
    }

    private static void regular(Check check) {
        DialectForms x = Check.withPlaces(2);
        Check.law(x, 2, "a>b");
        Check.form(x, 0, 0, 0, "ac");
        Check.form(x, 1, 1, 0, "ac");
        Check.form(x, 2, 1, 0, "bc");
        Check.form(x, 0, 0, 1, "ac");
        Check.form(x, 0, 0, 0, "a");
        check.due("22: no ROOT", x.regular(0), -3);
        Check.root(x, 0, "ac");
        check.due("22: as it was", x.regular(0), 1);
        check.due("22: not by the LAW there", x.regular(1), 0);
        check.due("22: by the LAW there", x.regular(2), 1);
        check.due("22: its MEANING has no ROOT", x.regular(3), -3);
        check.due("22: the beginning alone", x.regular(4), 0);
        check.due("22: no FORM", x.regular(5), -1);
        check.due("22: no FORM", x.regular(-1), -1);
    }

    private static void ways(Check check) {
        DialectForms x = Check.withPlaces(2);
        Check.form(x, 0, 0, 0, "ab");
        Check.form(x, 0, 0, 0, "");
        Check.form(x, 0, 0, 0, "bbb");
        Check.form(x, 0, 0, 0, "bbbb");
        Check.form(x, 0, 1, 0, "bbb");
        check.due("23: itself", x.ways(0, 3), 1);
        check.due("23: not of the set", x.ways(0, 5), 0);
        check.due("23: nothing", x.ways(1, 1), 1);
        Check.law(x, 1, "a>b");
        check.due("23: it can't be made", x.ways(0, 3), 0);
        check.due("23: a or b", x.ways(2, 3), 8);
        check.due("23: too long", x.ways(3, 3), 0);
        check.due("23: at its PLACE", x.ways(4, 3), 1);
        Check.law(x, 1, "c>0");
        check.due("23: all of c", x.ways(1, 4), 4);
        check.due("23: all rows", x.ways(1, 4 | 1), 4);
        Check.law(x, 1, "+0>0");
        for (int s = 0; s < 16; s++) {
            x.sound(s, 1, 0);
        }
        check.due("23: all rows of five", x.ways(1, 31 << 11), 156);
    }

    private static void waysRefusals(Check check) {
        DialectForms x = Check.withPlaces(1);
        check.due("23: no FORM ahead of the set", x.ways(0, 0), -1);
        Check.form(x, 0, 0, 0, "a");
        check.due("23: no FORM", x.ways(-1, 1), -1);
        check.due("23: no SOUND", x.ways(0, 0), -2);
        check.due("23: six SOUNDS", x.ways(0, 63), -2);
        check.due("23: what is no SOUND", x.ways(0, 65536), -2);
        check.due("23: what is no SOUND", x.ways(0, -1), -2);
        check.due("23: what is no SOUND", x.ways(0, 1 << 31), -2);
    }

    private static void ordered(Check check, DialectForms x, int p, int meanings, int... due) {
        check.due("24: how many MEANINGS", x.order(p, -1), meanings);
        for (int k = 0; k < 8; k++) {
            check.due("24: LAW " + k, x.order(p, k), k < due.length ? due[k] : -9);
        }
    }

    private static void order(Check check) {
        DialectForms x = Check.withPlaces(3);
        ordered(check, x, 0, 0);
        Check.root(x, 0, "a");
        Check.form(x, 0, 0, 0, "a");
        ordered(check, x, 0, 1);
        Check.law(x, 1, "a>b");
        Check.law(x, 2, "c>d");
        Check.law(x, 1, "b>c");
        ordered(check, x, 0, 0, 0, 2);
        Check.form(x, 1, 0, 0, "b");
        ordered(check, x, 0, 1, 2, 0);
        Check.form(x, 2, 0, 0, "c");
        ordered(check, x, 0, 1, 0, 2);
        ordered(check, x, 1, 0, 1);
        ordered(check, x, 2, 0);
        Check.form(x, 0, 0, 1, "b");
        ordered(check, x, 0, 1, 0, 2);
        Check.root(x, 1, "a");
        Check.form(x, 0, 0, 2, "b");
        Check.root(x, 2, "a");
        ordered(check, x, 0, 2, 2, 0);
        Check.root(x, 3, "a");
        ordered(check, x, 0, 2, 2, 0);
        // nothing is SAID, but there is no ROOT that it could come from; then there is one, of nothing
        Check.form(x, 0, 0, 4, "");
        ordered(check, x, 0, 2, 2, 0);
        Check.root(x, 4, "");
        ordered(check, x, 0, 3, 2, 0);
    }

    /** At PLACE p the first p MEANINGS are SAID, six at the most; where p is odd, by an order that is not the first. */
    private static void orderOfEachPlace(Check check) {
        DialectForms x = Check.withPlaces(8);
        Check.law(x, 255, "b>c");
        Check.law(x, 0b10101010, "a>b");
        for (int m = 0; m < 6; m++) {
            Check.root(x, m, "a");
        }
        for (int p = 0; p < 8; p++) {
            for (int m = 0; m < Math.min(p, 6); m++) {
                Check.form(x, 0, p, m, p % 2 == 0 ? "a" : "c");
            }
        }
        for (int p = 0; p < 8; p++) {
            if (p % 2 == 0) {
                ordered(check, x, p, Math.min(p, 6), 0);
            } else {
                ordered(check, x, p, Math.min(p, 6), 1, 0);
            }
        }
    }

    private static void orderTies(Check check) {
        DialectForms x = Check.withPlaces(1);
        for (String text : new String[] {"b>c", "c>d", "d>e", "e>f", "f>g", "a>b"}) {
            Check.law(x, 1, text);
        }
        Check.root(x, 0, "a");
        Check.form(x, 0, 0, 0, "g");
        ordered(check, x, 0, 1, 5, 0, 1, 2, 3, 4);
        Check.form(x, 0, 0, 0, "c");
        ordered(check, x, 0, 1, 1, 2, 3, 4, 5, 0);
        Check.form(x, 0, 0, 0, "p");
        ordered(check, x, 0, 0, 0, 1, 2, 3, 4, 5);
        Check.form(x, 0, 0, 0, "b");
        ordered(check, x, 0, 1, 0, 1, 2, 3, 4, 5);
    }

    private static void orderRefusals(Check check) {
        DialectForms x = Check.withPlaces(2);
        for (int l = 0; l < 8; l++) {
            Check.law(x, l < 7 ? 1 : 2, "a>b");
        }
        check.due("24: seven LAWS", x.order(0, -1), -3);
        check.due("24: no PLACE", x.order(2, 0), -1);
        check.due("24: no PLACE", x.order(-1, 0), -1);
        check.due("24: k 8 ahead of STATE", x.order(0, 8), -1);
        check.due("24: k -2", x.order(0, -2), -1);
        check.due("24: one LAW", x.order(1, 0), 7);
        x.force(3, 0);
        check.due("24: six LAWS", x.order(0, 3), 4);
    }
}
