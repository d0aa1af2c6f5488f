import java.util.ArrayList;
import java.util.List;

/**
 * An object of which something of everything is told, and all that its calls show; shared by the tests. SHEET 0 has ints,
 * 1 shorts, 2 bytes, 3 nothing; MEANING 4 has no ROOT but FORM 3, MEANING 5 nothing at all.
 */
final class Scene {
    /** Nine cells of SHEET 0 are SOUNDS and codes; then one is neither, with two good ones behind it. */
    static final int WRONG = 9;
    /** The TEXT a>b, with codes behind it that do not go on with it. */
    static final int TEXT = 12;
    static final int CELLS = 17;
    private static final int[] INTS = {1, 2, 0, 3, 1, 2, 0, 3, 1, 999, 1, 2, 'a', '>', 'b', 'b', 'b'};

    private Scene() {
    }

    static DialectForms half() {
        DialectForms x = Check.withPlaces(3);
        Check.cells(x, 0, INTS);
        x.sheet(1, 1, 4);
        x.put(1, 3, -7);
        x.sheet(2, 0, 4);
        x.put(2, 0, 3);
        x.sound(0, 63, 0);
        x.sound(1, 5, 2);
        x.sound(2, 8, 48);
        x.near(0, 1, true);
        x.entry(0, 5, 0, 2, 0, 1);
        x.entry(0, 6, 0, 2, 0, 2);
        x.entry(1, 7, 0, 2, 1, 1);
        x.form(0, 0, 0, 0, 2, 0, 2);
        x.form(1, 1, 0, 0, 2, 1, 3);
        x.form(2, 2, 1, 0, 2, 0, 8);
        x.form(0, 0, 4, 0, 2, 2, 1);
        x.root(0, 0, 2, 2, 2);
        x.root(1, 0, 2, 0, 8);
        x.root(3, 0, 2, 0, 0);
        x.law(3, 0, 2, TEXT, 3);
        x.law(0, 0, 2, TEXT, 3);
        x.gap(5);
        x.limit(4);
        x.tell(2);
        return x;
    }

    /** The same, with all PLACES, FORMS, LAWS and ENTRIES that there may ever be, and every LAW in force everywhere. */
    static DialectForms full() {
        DialectForms x = half();
        for (int p = 3; p < 8; p++) {
            x.place();
        }
        for (int f = 4; f < 40; f++) {
            x.form(f % 3, f % 8, f % 5, 0, 2, f % 4, f % 5);
        }
        for (int l = 2; l < 8; l++) {
            x.law(255, 0, 2, TEXT, 3);
        }
        x.force(0, 255);
        x.force(1, 255);
        for (int e = 0; e < 10; e++) {
            x.entry(0, e, 0, 2, e % 4, 3);
            x.entry(1, e, 0, 2, e % 4, 2);
            x.entry(2, e, 0, 2, e % 4, 1);
        }
        return x;
    }

    /** What calls answer of an object, but for fault(); those at the end change it, so it is used up. */
    static List<Long> shown(DialectForms x) {
        List<Long> told = new ArrayList<>();
        told.add((long) x.trace());
        for (int what = 0; what < 4; what++) {
            told.add((long) x.many(what));
        }
        showCells(x, told);
        showSounds(x, told);
        showForms(x, told);
        showRoots(x, told);
        showGroups(x, told);
        showWhatItWas(x, told);
        showWhatComesNext(x, told);
        return told;
    }

    private static void showCells(DialectForms x, List<Long> told) {
        int[] lanes = {2, 1, 0, 0};
        for (int k = 0; k < 4; k++) {
            for (int i = k == 0 ? CELLS : 4; i >= 0; i--) {
                told.add(x.cell(k, i, lanes[k]));
            }
        }
    }

    private static void showSounds(DialectForms x, List<Long> told) {
        for (int s = 0; s < 16; s++) {
            for (int f = 0; f < (s < 4 ? 6 : 1); f++) {
                told.add((long) x.feature(s, f));
            }
        }
    }

    private static void showForms(DialectForms x, List<Long> told) {
        for (int f : new int[] {0, 1, 2, 3, 4, 5, 39}) {
            for (int what : new int[] {0, 1, 2, 3, 10, 11, 12}) {
                told.add((long) x.ofForm(f, what));
            }
        }
        for (int p = 0; p < 8; p++) {
            for (int m = 0; m < 6; m++) {
                told.add((long) x.said(p, m));
            }
        }
    }

    private static void showRoots(DialectForms x, List<Long> told) {
        for (int m = 0; m < 6; m++) {
            for (int k = -1; k < 3; k++) {
                told.add((long) x.ofRoot(m, k));
            }
            for (int p = 0; p < 3; p++) {
                told.add((long) x.derived(p, m, 8, 0));
                told.add((long) x.derived(p, m, 8, 1));
            }
        }
    }

    private static void showGroups(DialectForms x, List<Long> told) {
        for (int m = 0; m < 6; m++) {
            told.add((long) x.group(m, -1));
            told.add((long) x.border(m, -1));
        }
        told.add((long) x.cost(0, 1));
        told.add((long) x.cost(1, 2));
    }

    private static void showWhatItWas(DialectForms x, List<Long> told) {
        told.add((long) x.gap(6));
        told.add((long) x.limit(3));
        for (int l = 0; l < 8; l++) {
            told.add((long) x.force(l, 0));
        }
        for (int p = 0; p < 3; p++) {
            told.add((long) x.near(p, (p + 1) % 3, true));
        }
    }

    private static void showWhatComesNext(DialectForms x, List<Long> told) {
        for (int c = 0; c < 3; c++) {
            told.add((long) x.entry(c, 9, 0, 2, 3, 1));
            told.add((long) x.read(c, 0, 5, 0, 2, 0, 2));
            told.add((long) x.said(0, 5));
            told.add((long) x.ofForm(x.many(1) - 1, 10));
        }
        told.add((long) x.law(1, 0, 2, TEXT, 3));
        told.add((long) x.derived(0, 0, 8, 0));
        told.add((long) x.place());
        told.add((long) x.near(0, 3, false));
        for (int k = 0; k < 4; k++) {
            told.add((long) x.lose(k));
        }
    }
}
