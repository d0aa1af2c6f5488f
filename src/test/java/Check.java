/** Counts the answers of one test that are not as due; shared by the tests of the project. */
final class Check {
    private int wrong = 0;

    void due(String what, long got, long want) {
        if (got != want) {
            wrong++;
            System.out.println(what + " answered " + got + ", due is " + want);
        }
    }

    void isTrue(String what, boolean holds) {
        due(what, holds ? 1 : 0, 1);
    }

    void end() {
        System.out.println(wrong == 0 ? "all answers are as due" : wrong + " answers are not as due");
        if (wrong != 0) {
            System.exit(1);
        }
    }

    /** A SHEET of ints gets these cells. */
    static int cells(DialectForms x, int sheet, int... cells) {
        x.sheet(sheet, 2, cells.length);
        for (int i = 0; i < cells.length; i++) {
            x.put(sheet, i, cells[i]);
        }
        return cells.length;
    }

    private static int[] codes(String text) {
        return text.chars().toArray();
    }

    private static int[] sounds(String letters) {
        return letters.chars().map(c -> c - 'a').toArray();
    }

    static int entry(DialectForms x, int collector, char letter, String codes) {
        int n = cells(x, 3, codes(codes));
        return x.entry(collector, letter - 'a', 3, 2, 0, n);
    }

    static int read(DialectForms x, int collector, int p, int meaning, String codes) {
        int n = cells(x, 3, codes(codes));
        return x.read(collector, p, meaning, 3, 2, 0, n);
    }

    static int form(DialectForms x, int kind, int p, int meaning, String letters) {
        int n = cells(x, 3, sounds(letters));
        return x.form(kind, p, meaning, 3, 2, 0, n);
    }

    static int root(DialectForms x, int meaning, String letters) {
        int n = cells(x, 3, sounds(letters));
        return x.root(meaning, 3, 2, 0, n);
    }

    static int law(DialectForms x, int places, String text) {
        int n = cells(x, 3, codes(text));
        return x.law(places, 3, 2, 0, n);
    }

    static DialectForms withPlaces(int n) {
        DialectForms x = new DialectForms();
        for (int p = 0; p < n; p++) {
            x.place();
        }
        return x;
    }

    static String spoken(DialectForms x, int f) {
        StringBuilder letters = new StringBuilder();
        for (int k = 0; k < x.ofForm(f, 3); k++) {
            letters.append((char) ('a' + x.ofForm(f, 10 + k)));
        }
        return letters.toString();
    }

    static String derived(DialectForms x, int p, int meaning, int n) {
        StringBuilder letters = new StringBuilder();
        for (int k = 0; k < x.derived(p, meaning, n, -1); k++) {
            letters.append((char) ('a' + x.derived(p, meaning, n, k)));
        }
        return letters.toString();
    }
}
