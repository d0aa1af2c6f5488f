/** Promises 2 to 5: sounds, collectors. */
public final class SoundsTest {
    public static void main(String[] args) {
        Check check = new Check();
        sound(check);
        feature(check);
        differ(check);
        entry(check);
        entryFaults(check);
        entryOrder(check);
        check.end();
    }

    private static void sound(Check check) {
        DialectForms x = new DialectForms();
        check.due("2: it becomes so", x.sound(0, 5, 2), 1);
        check.due("2: it was so", x.sound(0, 5, 2), 0);
        check.due("2: yes becomes not told", x.sound(0, 4, 2), 1);
        check.due("2: not told", x.feature(0, 0), -9);
        check.due("2: no becomes not told", x.sound(0, 4, 0), 1);
        check.due("2: no becomes yes", x.sound(0, 6, 0), 1);
        check.due("2: nothing told of nothing", x.sound(1, 0, 0), 0);
        check.due("2: all FEATURES", x.sound(15, 63, 0), 1);
        check.due("2: all FEATURES", x.sound(15, 0, 63), 1);
        for (int bad : new int[] {-1, 16, Integer.MIN_VALUE, Integer.MAX_VALUE}) {
            check.due("2: no SOUND " + bad, x.sound(bad, 0, 0), -1);
            check.due("2: UNKNOWN is ahead of OUTSIDE", x.sound(bad, 64, 0), -1);
        }
        for (int bad : new int[] {-1, 64, Integer.MIN_VALUE, Integer.MAX_VALUE}) {
            check.due("2: yes " + bad, x.sound(0, bad, 0), -2);
            check.due("2: no " + bad, x.sound(0, 0, bad), -2);
        }
        check.due("2: in both", x.sound(0, 5, 4), -2);
        check.due("2: a refusal changes nothing", x.sound(0, 6, 0), 0);
    }

    private static void feature(Check check) {
        DialectForms x = new DialectForms();
        x.sound(3, 33, 4);
        check.due("3: yes", x.feature(3, 0), 1);
        check.due("3: not told", x.feature(3, 1), -9);
        check.due("3: no", x.feature(3, 2), 0);
        check.due("3: the last one", x.feature(3, 5), 1);
        check.due("3: of another SOUND", x.feature(2, 0), -9);
        check.due("3: no SOUND", x.feature(16, 0), -1);
        check.due("3: no SOUND", x.feature(-1, 9), -1);
        check.due("3: no FEATURE", x.feature(3, 6), -2);
        check.due("3: no FEATURE", x.feature(3, -1), -2);
    }

    private static void differ(Check check) {
        DialectForms x = new DialectForms();
        x.sound(0, 0b000111, 0b111000);
        x.sound(1, 0b111000, 0b000111);
        x.sound(2, 0b000001, 0b001000);
        check.due("4: six FEATURES against one another", x.differ(0, 1), 12);
        check.due("4: four told of one alone", x.differ(0, 2), 4);
        check.due("4: from the other side", x.differ(2, 0), 4);
        check.due("4: two against, four of one alone", x.differ(1, 2), 8);
        check.due("4: told of none", x.differ(3, 4), 0);
        check.due("4: told of one alone", x.differ(0, 15), 6);
        check.due("4: with itself", x.differ(0, 0), 0);
        check.due("4: no SOUND", x.differ(0, 16), -1);
        check.due("4: no SOUND", x.differ(-1, 0), -1);
    }

    private static void entry(Check check) {
        DialectForms x = Check.withPlaces(1);
        check.due("5: the first ENTRY", Check.entry(x, 0, 'a', "x"), 1);
        check.due("5: three codes", Check.entry(x, 0, 'b', "xyz"), 2);
        check.due("5: another COLLECTOR's first", Check.entry(x, 1, 'c', "x"), 1);
        for (int k = 3; k <= 10; k++) {
            check.due("5: ENTRY " + k, Check.entry(x, 0, 'a', "x"), k);
        }
        check.due("5: an eleventh", Check.entry(x, 0, 'a', "x"), -4);
        check.due("5: FULL changes nothing", Check.entry(x, 0, 'a', "x"), -4);
        check.due("5: OUTSIDE is ahead of FULL", Check.entry(x, 0, 'a', ""), -2);
        check.due("5: the other one is not FULL", Check.entry(x, 1, 'c', "y"), 2);
        check.due("5: four codes", Check.entry(x, 1, 'c', "wxyz"), -2);
        for (int bad : new int[] {-1, 128, Integer.MAX_VALUE}) {
            Check.cells(x, 2, 0, bad);
            check.due("5: code " + bad, x.entry(2, 0, 2, 2, 0, 2), -2);
            check.due("5: fault of a refusal", x.fault(), 0);
        }
        Check.cells(x, 2, 0, 127, 5);
        check.due("5: codes from i on", x.entry(2, 7, 2, 2, 1, 1), 1);
        check.due("5: codes 0 and 127", x.entry(2, 8, 2, 2, 0, 2), 2);
        check.due("5: READ so", x.read(2, 0, 0, 2, 2, 0, 2), 0);
        check.due("5: one SOUND", x.ofForm(0, 3), 1);
        check.due("5: READ as", x.ofForm(0, 10), 8);
    }

    private static void entryFaults(Check check) {
        DialectForms x = new DialectForms();
        check.due("5: nothing is no CAST", x.entry(0, 0, 0, 0, 0, 1), -11);
        check.due("5: fault NULL", x.fault(), 1);
        x.sheet(0, 1, 3);
        check.due("5: CAST", x.entry(0, 0, 0, 2, 0, 1), -12);
        check.due("5: fault CAST", x.fault(), 2);
        check.due("5: SIZE", x.entry(0, 0, 0, 1, 0, -1), -14);
        check.due("5: fault SIZE", x.fault(), 4);
        for (int[] bad : new int[][] {{0, 4}, {3, 1}, {2, 2}, {-1, 1}, {-1, 0}, {4, 0}, {3, Integer.MAX_VALUE},
            {Integer.MAX_VALUE, 1}, {Integer.MIN_VALUE, 1}, {1, Integer.MAX_VALUE}}) {
            check.due("5: INDEX " + bad[0] + ", " + bad[1], x.entry(0, 0, 0, 1, bad[0], bad[1]), -13);
            check.due("5: fault INDEX", x.fault(), 3);
        }
        check.due("5: none of the cells at the end is no INDEX", x.entry(0, 0, 0, 1, 3, 0), -2);
        check.due("5: fault of a refusal", x.fault(), 0);
        check.due("5: an ENTRY", x.entry(0, 0, 0, 1, 0, 3), 1);
        check.due("5: fault of a good call", x.fault(), 0);
    }

    private static void entryOrder(Check check) {
        DialectForms x = new DialectForms();
        check.due("5: COLLECTOR ahead of lane", x.entry(3, 0, 0, 3, 0, 1), -1);
        check.due("5: COLLECTOR", x.entry(-1, 0, 0, 0, 0, 1), -1);
        check.due("5: SOUND ahead of lane", x.entry(0, 16, 0, 3, 0, 1), -1);
        check.due("5: SOUND", x.entry(0, -1, 0, 0, 0, 1), -1);
        check.due("5: SHEET ahead of lane", x.entry(0, 0, 4, 3, 0, 1), -1);
        check.due("5: SHEET", x.entry(0, 0, -1, 0, 0, 1), -1);
        check.due("5: lane ahead of NULL", x.entry(0, 0, 0, 3, 0, 1), -2);
        check.due("5: lane", x.entry(0, 0, 0, -1, 0, 1), -2);
        check.due("5: NULL ahead of SIZE", x.entry(0, 0, 0, 0, 0, -1), -11);
        x.sheet(0, 0, 2);
        check.due("5: CAST ahead of SIZE", x.entry(0, 0, 0, 1, 0, -1), -12);
        check.due("5: a refusal clears fault", x.entry(0, 16, 0, 0, 0, 1), -1);
        check.due("5: fault of a refusal", x.fault(), 0);
        check.due("5: SIZE ahead of INDEX", x.entry(0, 0, 0, 0, 9, -1), -14);
        check.due("5: INDEX ahead of OUTSIDE", x.entry(0, 0, 0, 0, 0, 4), -13);
        x.lose(0);
        check.due("5: lost again", x.entry(0, 0, 0, 1, 0, 1), -11);
    }
}
