/** Promises 18 to 20: costs. */
public final class CostsTest {
    public static void main(String[] args) {
        Check check = new Check();
        gap(check);
        cost(check);
        align(check);
        alignTies(check);
        alignLong(check);
        check.end();
    }

    /** a and b DIFFER by 12, c by 6 from both; d and all others by 6 from a and b, by 0 from c. */
    private static DialectForms object() {
        DialectForms x = Check.withPlaces(1);
        x.sound(0, 63, 0);
        x.sound(1, 0, 63);
        return x;
    }

    private static void gap(Check check) {
        DialectForms x = object();
        Check.form(x, 0, 0, 0, "a");
        Check.form(x, 0, 0, 0, "");
        check.due("18: at first", x.gap(20), 6);
        check.due("18: it counts", x.cost(0, 1), 20);
        check.due("18: what it was", x.gap(1), 20);
        check.due("18: it counts", x.cost(0, 1), 1);
        check.due("18: 0", x.gap(0), -2);
        check.due("18: 21", x.gap(21), -2);
        check.due("18: below", x.gap(-1), -2);
        check.due("18: refusals change nothing", x.gap(1), 1);
    }

    private static int costOf(int gap, String first, String second) {
        DialectForms x = object();
        x.gap(gap);
        Check.form(x, 0, 0, 0, first);
        Check.form(x, 0, 0, 0, second);
        return x.cost(0, 1);
    }

    private static void cost(Check check) {
        check.due("19: nothing", costOf(6, "", ""), 0);
        check.due("19: alike", costOf(6, "abcab", "abcab"), 0);
        check.due("19: a pair", costOf(7, "a", "b"), 12);
        check.due("19: alone", costOf(5, "a", "b"), 10);
        check.due("19: a GAP between", costOf(3, "acb", "ab"), 3);
        check.due("19: GAPS at the ends", costOf(3, "ccab", "abcc"), 12);
        check.due("19: pairs", costOf(20, "ccab", "abcc"), 24);
        check.due("19: one is nothing", costOf(20, "", "abababab"), 160);
        check.due("19: eight pairs", costOf(20, "aaaaaaaa", "bbbbbbbb"), 96);
        check.due("19: eight alone", costOf(1, "aaaaaaaa", "bbbbbbbb"), 16);
        DialectForms x = object();
        Check.form(x, 0, 0, 0, "a");
        check.due("19: no FORM", x.cost(0, 1), -1);
        check.due("19: no FORM", x.cost(-1, 0), -1);
    }

    private static String columns(int gap, String first, String second) {
        DialectForms x = object();
        x.gap(gap);
        Check.form(x, 0, 0, 0, first);
        Check.form(x, 0, 0, 0, second);
        StringBuilder told = new StringBuilder();
        for (int k = 0; k < x.align(0, 1, -1); k++) {
            told.append(x.align(0, 1, k)).append(' ');
        }
        return told.toString().trim();
    }

    private static void aligned(Check check, int gap, String first, String second, String due) {
        String got = columns(gap, first, second);
        check.isTrue("20: " + first + " and " + second + " with GAP " + gap + " gives " + got, got.equals(due));
    }

    private static void align(Check check) {
        aligned(check, 6, "", "", "");
        aligned(check, 6, "ab", "ab", "101 202");
        aligned(check, 6, "ab", "", "100 200");
        aligned(check, 6, "", "ab", "1 2");
        aligned(check, 3, "acb", "ab", "101 300 202");
        aligned(check, 3, "ab", "acb", "101 3 202");
        aligned(check, 3, "ccab", "abcc", "300 300 101 202 3 3");
        DialectForms x = object();
        Check.form(x, 0, 0, 0, "p");
        check.due("20: how many", x.align(0, 0, -1), 1);
        check.due("20: the last SOUND", x.align(0, 0, 0), 1616);
        check.due("20: fewer", x.align(0, 0, 1), -9);
        check.due("20: k 15", x.align(0, 0, 15), -9);
        check.due("20: k 16", x.align(0, 0, 16), -1);
        check.due("20: k -2", x.align(0, 0, -2), -1);
        check.due("20: no FORM", x.align(1, 0, 0), -1);
        check.due("20: no FORM", x.align(0, -1, 0), -1);
    }

    private static void alignTies(Check check) {
        aligned(check, 6, "a", "b", "102");
        aligned(check, 5, "a", "b", "100 2");
        aligned(check, 6, "aa", "a", "101 100");
        aligned(check, 6, "a", "aa", "101 1");
        aligned(check, 3, "cd", "dc", "304 403");
        aligned(check, 1, "ab", "ba", "100 202 1");
        aligned(check, 1, "ba", "ab", "200 101 2");
        aligned(check, 6, "ac", "b", "100 302");
        // the pair could stand in front or behind
        aligned(check, 6, "cd", "d", "304 400");
        aligned(check, 6, "d", "cd", "403 4");
    }

    private static void alignLong(Check check) {
        DialectForms x = object();
        x.gap(1);
        Check.form(x, 0, 0, 0, "aaaaaaaa");
        Check.form(x, 1, 0, 0, "bbbbbbbb");
        check.due("20: sixteen columns", x.align(0, 1, -1), 16);
        for (int k = 0; k < 16; k++) {
            check.due("20: column " + k, x.align(0, 1, k), k < 8 ? 100 : 2);
        }
    }
}
