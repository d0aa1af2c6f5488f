/** Promises 30 to 33: sheets. */
public final class SheetsTest {
    private static final long LOST = Long.MIN_VALUE;

    public static void main(String[] args) {
        Check check = new Check();
        sheet(check);
        lose(check);
        put(check);
        cut(check);
        whatIsCutIsTaken(check);
        cell(check);
        check.end();
    }

    private static void sheet(Check check) {
        DialectForms x = new DialectForms();
        check.due("30: a row", x.sheet(0, 0, 60), 1);
        check.due("30: a row of none", x.sheet(3, 2, 0), 1);
        check.due("30: SHEET ahead of lane", x.sheet(4, 3, -1), -1);
        check.due("30: SHEET", x.sheet(-1, 0, 1), -1);
        check.due("30: lane ahead of SIZE", x.sheet(0, 3, -1), -2);
        check.due("30: lane", x.sheet(0, -1, 1), -2);
        check.due("30: n above 60", x.sheet(0, 0, 61), -2);
        check.due("30: fault of a refusal", x.fault(), 0);
        check.due("30: SIZE", x.sheet(0, 1, -1), -14);
        check.due("30: fault", x.fault(), 4);
        check.due("30: SIZE", x.sheet(0, 1, Integer.MIN_VALUE), -14);
        check.due("30: a FAULT changes nothing", x.cell(0, 59, 0), 0);
        x.put(0, 59, 5);
        check.due("30: a new row", x.sheet(0, 1, 60), 1);
        check.due("30: of 0", x.cell(0, 59, 1), 0);
        x.put(0, 0, 7);
        x.sheet(0, 1, 1);
        check.due("30: of 0 again", x.cell(0, 0, 1), 0);
        check.due("30: shorter", x.cell(0, 1, 1), LOST);
        check.due("30: fault", x.fault(), 3);
        check.due("30: a good call", x.sheet(1, 0, 1), 1);
        check.due("30: fault of a good call", x.fault(), 0);
    }

    private static void lose(Check check) {
        DialectForms x = new DialectForms();
        check.due("31: it had nothing", x.lose(0), 0);
        x.sheet(0, 0, 0);
        check.due("31: it had a row", x.lose(0), 1);
        check.due("31: it had nothing", x.lose(0), 0);
        check.due("31: put", x.put(0, 0, 0), -11);
        check.due("31: no SHEET", x.lose(4), -1);
        check.due("31: no SHEET", x.lose(-1), -1);
        check.due("31: it names no FAULT, so fault() stays", x.fault(), 1);
    }

    private static void put(Check check) {
        DialectForms x = new DialectForms();
        check.due("32: SHEET", x.put(4, 0, 0), -1);
        check.due("32: SHEET", x.put(-1, 0, 0), -1);
        check.due("32: NULL ahead of INDEX", x.put(0, -1, 0), -11);
        check.due("32: fault", x.fault(), 1);
        check.due("32: a refusal clears fault", x.put(4, 0, 0), -1);
        check.due("32: fault of a refusal", x.fault(), 0);
        x.sheet(0, 0, 2);
        check.due("32: INDEX", x.put(0, 2, 0), -13);
        check.due("32: fault", x.fault(), 3);
        check.due("32: INDEX", x.put(0, -1, 0), -13);
        check.due("32: INDEX", x.put(0, Integer.MIN_VALUE, 0), -13);
        long[][] due = {{0, -56, 200}, {0, 0, 256}, {0, -128, 128}, {0, -1, -1}, {1, 200, 200}, {1, -32768, 32768},
            {1, 0, 65536}, {1, -7, -7}, {2, 65536, 65536}, {2, Integer.MIN_VALUE, Integer.MIN_VALUE}};
        for (long[] row : due) {
            x.sheet(1, (int) row[0], 2);
            check.due("32: it becomes so", x.put(1, 1, (int) row[2]), 1);
            check.due("32: fault of a good call", x.fault(), 0);
            check.due("32: cut to LANE " + row[0], x.cell(1, 1, (int) row[0]), row[1]);
            check.due("32: the other cell", x.cell(1, 0, (int) row[0]), 0);
        }
        check.due("32: the other SHEET", x.cell(0, 1, 0), 0);
    }

    private static void cut(Check check) {
        int[][] due = {
            {0, 127, 127}, {0, 128, -128}, {0, -128, -128}, {0, -129, 127}, {0, 255, -1}, {0, 256, 0}, {0, -256, 0},
            {0, Integer.MAX_VALUE, -1}, {0, Integer.MIN_VALUE, 0},
            {1, 127, 127}, {1, 128, 128}, {1, 32767, 32767}, {1, 32768, -32768}, {1, -32768, -32768},
            {1, -32769, 32767}, {1, 65535, -1}, {1, 65536, 0}, {1, Integer.MAX_VALUE, -1}, {1, Integer.MIN_VALUE, 0},
            {2, 32768, 32768}, {2, -32769, -32769}, {2, 65536, 65536}, {2, Integer.MAX_VALUE, Integer.MAX_VALUE},
            {2, Integer.MIN_VALUE, Integer.MIN_VALUE}};
        DialectForms x = new DialectForms();
        for (int[] row : due) {
            x.sheet(1, row[0], 1);
            check.due("32: it becomes so", x.put(1, 0, row[1]), 1);
            check.due("32: " + row[1] + " cut to LANE " + row[0], x.cell(1, 0, row[0]), row[2]);
        }
    }

    /** What is no SOUND and no code as an int may be one when it is cut. */
    private static void whatIsCutIsTaken(Check check) {
        int[] one = {256 + 'a', 65536 + 'a', 'a'};
        for (int has = 0; has < 3; has++) {
            DialectForms x = Check.withPlaces(1);
            x.sheet(0, has, 3);
            x.put(0, 0, one[has]);
            x.put(0, 1, '>');
            x.put(0, 2, 'b');
            check.due("14: a TEXT of LANE " + has, x.law(1, 0, has, 0, 3), 0);
            check.due("5: a code of LANE " + has, x.entry(0, 3, 0, has, 0, 1), 1);
            x.put(0, 0, one[has] - 'a');
            check.due("8: a SOUND of LANE " + has, x.form(0, 0, 0, 0, has, 0, 1), 0);
            check.due("12: a SOUND of LANE " + has, x.root(0, 0, has, 0, 1), 1);
            check.due("10: it is the first", x.ofForm(0, 10), 0);
        }
        DialectForms x = Check.withPlaces(1);
        x.sheet(0, 0, 1);
        x.put(0, 0, 128);
        check.due("5: 128 is below 0 as a byte", x.entry(0, 0, 0, 0, 0, 1), -2);
        x.put(0, 0, -1);
        check.due("8: no SOUND", x.form(0, 0, 0, 0, 0, 0, 1), -1);
    }

    private static void cell(Check check) {
        DialectForms x = new DialectForms();
        check.due("33: nothing is no CAST", x.cell(0, 0, 2), LOST);
        check.due("33: fault", x.fault(), 1);
        check.due("33: SHEET", x.cell(4, 0, 0), LOST);
        check.due("33: fault of a refusal", x.fault(), 0);
        x.cell(0, 0, 2);
        check.due("33: lane", x.cell(0, 0, 3), LOST);
        check.due("33: fault of a refusal", x.fault(), 0);
        check.due("33: lane", x.cell(0, 0, -1), LOST);
        check.due("33: fault of a refusal", x.fault(), 0);
        x.sheet(0, 1, 3);
        check.due("33: CAST ahead of INDEX", x.cell(0, 3, 0), LOST);
        check.due("33: fault", x.fault(), 2);
        check.due("33: CAST", x.cell(0, 0, 2), LOST);
        check.due("33: fault", x.fault(), 2);
        check.due("33: INDEX", x.cell(0, 3, 1), LOST);
        check.due("33: fault", x.fault(), 3);
        check.due("33: INDEX", x.cell(0, -1, 1), LOST);
        check.due("33: fault", x.fault(), 3);
        x.put(0, 2, -5);
        check.due("33: a cell", x.cell(0, 2, 1), -5);
        check.due("33: fault of a good call", x.fault(), 0);
    }
}
