/** Promises 25 to 29: groups, borders. */
public final class GroupsTest {
    public static void main(String[] args) {
        Check check = new Check();
        limit(check);
        group(check);
        border(check);
        allBorders(check);
        fewForms(check);
        bundle(check);
        area(check);
        check.end();
    }

    /** SOUND k has the first k FEATURES yes, the others no, so k and j DIFFER by twice what is between them. */
    private static DialectForms object(int places) {
        DialectForms x = Check.withPlaces(places);
        for (int s = 0; s <= 6; s++) {
            x.sound(s, (1 << s) - 1, 63 & ~((1 << s) - 1));
        }
        return x;
    }

    private static void limit(Check check) {
        DialectForms x = object(2);
        check.due("25: at first", x.limit(0), 3);
        check.due("25: what it was", x.limit(99), 0);
        check.due("25: 100", x.limit(100), -2);
        check.due("25: -1", x.limit(-1), -2);
        check.due("25: refusals change nothing", x.limit(2), 99);
        Check.form(x, 0, 0, 0, "a");
        Check.form(x, 0, 1, 0, "b");
        check.due("25: LIMIT at most is LIKE", x.group(0, -1), 1);
        x.limit(1);
        check.due("25: more is not", x.group(0, -1), 2);
    }

    private static void grouped(Check check, DialectForms x, int meaning, int groups, int... due) {
        check.due("26: how many", x.group(meaning, -1), groups);
        for (int p = 0; p < due.length; p++) {
            check.due("26: that of PLACE " + p, x.group(meaning, p), due[p]);
        }
    }

    private static void group(Check check) {
        DialectForms x = object(7);
        grouped(check, x, 0, 0, -9, -9, -9, -9, -9, -9, -9);
        Check.form(x, 0, 1, 0, "c");
        Check.form(x, 1, 3, 0, "a");
        Check.form(x, 2, 4, 0, "g");
        Check.form(x, 0, 6, 0, "g");
        grouped(check, x, 0, 3, -9, 1, -9, 3, 4, -9, 4);
        Check.form(x, 0, 5, 0, "b");
        grouped(check, x, 0, 2, -9, 1, -9, 1, 4, 1, 4);
        Check.form(x, 0, 0, 0, "d");
        grouped(check, x, 0, 2, 0, 0, -9, 0, 4, 0, 4);
        Check.form(x, 0, 2, 0, "");
        grouped(check, x, 0, 3, 0, 0, 2, 0, 4, 0, 4);
        x.gap(3);
        grouped(check, x, 0, 1, 0, 0, 0, 0, 0, 0, 0);
        x.gap(4);
        Check.form(x, 0, 5, 0, "g");
        grouped(check, x, 0, 4, 0, 0, 2, 3, 4, 4, 4);
        grouped(check, x, 5, 0, -9, -9, -9, -9, -9, -9, -9);
        check.due("26: no PLACE", x.group(0, 7), -1);
        check.due("26: no PLACE", x.group(0, -2), -1);
        check.due("26: no MEANING", x.group(6, -1), -1);
        check.due("26: no MEANING", x.group(-1, 0), -1);
    }

    private static void border(Check check) {
        DialectForms x = object(4);
        Check.form(x, 0, 0, 0, "a");
        Check.form(x, 0, 1, 0, "g");
        Check.form(x, 0, 2, 0, "b");
        check.due("27: none is near", x.border(0, -1), 0);
        x.near(2, 1, true);
        x.near(1, 0, true);
        x.near(0, 2, true);
        x.near(0, 3, true);
        check.due("27: two", x.border(0, -1), 2);
        check.due("27: the first", x.border(0, 0), 1);
        check.due("27: the second", x.border(0, 1), 12);
        check.due("27: no third", x.border(0, 2), -9);
        x.limit(2);
        check.due("27: LIMIT at most is LIKE", x.border(0, -1), 2);
        check.due("28: LIMIT at most is LIKE", x.bundle(0, 2), 0);
        x.limit(1);
        check.due("28: more is not", x.bundle(0, 2), 1);
        check.due("27: between", x.border(0, 1), 2);
        check.due("27: three", x.border(0, -1), 3);
        x.near(0, 2, false);
        check.due("27: not near", x.border(0, -1), 2);
        Check.form(x, 1, 3, 0, "g");
        check.due("27: SAID there now", x.border(0, 1), 3);
        check.due("27: another MEANING", x.border(1, -1), 0);
        check.due("27: k 27", x.border(0, 27), -9);
        check.due("27: k 28", x.border(0, 28), -1);
        check.due("27: k -2", x.border(0, -2), -1);
        check.due("27: no MEANING", x.border(6, 0), -1);
        check.due("27: no MEANING", x.border(-1, 0), -1);
    }

    private static void allBorders(Check check) {
        DialectForms x = object(8);
        x.limit(0);
        for (int p = 0; p < 8; p++) {
            Check.form(x, 0, p, 0, "aaaaaaaa".substring(p));
            for (int q = 0; q < p; q++) {
                x.near(p, q, true);
            }
        }
        check.due("27: all", x.border(0, -1), 28);
        int k = 0;
        for (int p = 0; p < 8; p++) {
            for (int q = p + 1; q < 8; q++) {
                check.due("27: in order", x.border(0, k), 10 * p + q);
                k++;
            }
        }
    }

    /** Two FORMS are all there are, at two of eight PLACES, be they the first or the last. */
    private static void fewForms(Check check) {
        for (int p = 0; p < 8; p++) {
            for (int q = p + 1; q < 8; q++) {
                DialectForms x = object(8);
                Check.form(x, 0, q, 5, "a");
                Check.form(x, 0, p, 5, "g");
                x.near(q, p, true);
                check.due("26: two", x.group(5, -1), 2);
                check.due("26: each alone", x.group(5, q), q);
                check.due("27: between " + p + " and " + q, x.border(5, -1), 1);
                check.due("27: between " + p + " and " + q, x.border(5, 0), 10 * p + q);
                check.due("28: one MEANING", x.bundle(q, p), 1);
                x.limit(12);
                check.due("26: LIKE", x.group(5, q), p);
                check.due("27: LIKE", x.border(5, 0), -9);
                check.due("28: LIKE", x.bundle(p, q), 0);
            }
        }
    }

    private static void bundle(Check check) {
        DialectForms x = object(3);
        check.due("28: nothing SAID", x.bundle(0, 1), 0);
        for (int m = 0; m < 6; m++) {
            Check.form(x, 0, 0, m, "a");
            Check.form(x, 0, 1, m, m < 2 ? "b" : "c");
        }
        check.due("28: not LIKE for four, near or not", x.bundle(0, 1), 4);
        check.due("28: from the other side", x.bundle(1, 0), 4);
        Check.form(x, 2, 0, 5, "c");
        check.due("28: as it is SAID last", x.bundle(0, 1), 3);
        x.limit(0);
        check.due("28: by LIMIT", x.bundle(0, 1), 5);
        check.due("28: not SAID there", x.bundle(0, 2), 0);
        check.due("28: both are one", x.bundle(1, 1), -2);
        check.due("28: UNKNOWN ahead of OUTSIDE", x.bundle(3, 3), -1);
        check.due("28: no PLACE", x.bundle(0, 3), -1);
        check.due("28: no PLACE", x.bundle(-1, 0), -1);
    }

    private static void area(Check check) {
        DialectForms x = object(6);
        Check.law(x, 0b111011, "a>b");
        x.near(5, 3, true);
        x.near(3, 1, true);
        x.near(0, 2, true);
        x.near(2, 4, true);
        check.due("29: how many", x.area(0, -1), 3);
        int[] due = {0, 1, -9, 1, 4, 1};
        for (int p = 0; p < 6; p++) {
            check.due("29: that of PLACE " + p, x.area(0, p), due[p]);
        }
        x.force(0, 0b111111);
        check.due("29: joined", x.area(0, -1), 2);
        check.due("29: joined", x.area(0, 4), 0);
        x.near(4, 5, true);
        check.due("29: all", x.area(0, -1), 1);
        check.due("29: all", x.area(0, 5), 0);
        x.force(0, 0);
        check.due("29: none", x.area(0, -1), 0);
        check.due("29: none", x.area(0, 0), -9);
        check.due("29: no PLACE", x.area(0, 6), -1);
        check.due("29: no PLACE", x.area(0, -2), -1);
        check.due("29: no LAW", x.area(1, 0), -1);
        check.due("29: no LAW", x.area(-1, -1), -1);
    }
}
