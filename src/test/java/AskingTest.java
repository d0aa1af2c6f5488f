import java.util.ArrayList;
import java.util.List;
import java.util.function.ToLongFunction;

/**
 * Calls that only ask: they change nothing that a later call shows, TRACE and the ROOTS among it; and LOANS and GUESSES
 * are FORMS for all calls that take one.
 */
public final class AskingTest {
    private final Check check = new Check();
    private final List<Long> half = Scene.shown(Scene.half());
    private final List<Long> full = Scene.shown(Scene.full());

    public static void main(String[] args) {
        AskingTest test = new AskingTest();
        test.sounds();
        test.forms();
        test.laws();
        test.costs();
        test.roots();
        test.groups();
        test.parts();
        test.twice();
        test.kinds();
        test.check.end();
    }

    private void asked(String what, ToLongFunction<DialectForms> call) {
        DialectForms x = Scene.half();
        call.applyAsLong(x);
        check.isTrue(what + " changes nothing", Scene.shown(x).equals(half));
        DialectForms y = Scene.full();
        call.applyAsLong(y);
        check.isTrue(what + " changes nothing, full", Scene.shown(y).equals(full));
    }

    private void sounds() {
        for (int s = 0; s < 4; s++) {
            int one = s;
            asked("3: feature", x -> x.feature(one, one));
            asked("4: differ", x -> x.differ(one, 3 - one));
        }
    }

    private void forms() {
        for (int what : new int[] {0, 1, 2, 3, 10, 11}) {
            asked("10: ofForm", x -> x.ofForm(1, what));
        }
        for (int m = 0; m < 6; m++) {
            int meaning = m;
            asked("11: said", x -> x.said(meaning % 3, meaning));
            asked("13: how many of a ROOT", x -> x.ofRoot(meaning, -1));
            asked("13: of a ROOT", x -> x.ofRoot(meaning, meaning));
        }
    }

    private void laws() {
        for (int m = 0; m < 6; m++) {
            int meaning = m;
            for (int k = -1; k < 8; k++) {
                int which = k;
                asked("16: derived", x -> x.derived(meaning % 3, meaning, which + 1, which));
            }
            asked("17: latest", x -> x.latest(meaning % 3, meaning));
        }
    }

    private void costs() {
        for (int f = 0; f < 4; f++) {
            int one = f;
            asked("19: cost", x -> x.cost(one, 3 - one));
            for (int k = -1; k < 16; k += 4) {
                int column = k;
                asked("20: align", x -> x.align(one, 3 - one, column));
            }
        }
    }

    private void roots() {
        for (int m = 0; m < 6; m++) {
            int meaning = m;
            for (int k = -2; k < 3; k++) {
                int which = k;
                asked("21: sought", x -> x.sought(meaning, 7, which));
            }
        }
        for (int f = 0; f < 4; f++) {
            int one = f;
            asked("22: regular", x -> x.regular(one));
            asked("23: ways", x -> x.ways(one, 15));
        }
        for (int k = -1; k < 8; k++) {
            int which = k;
            asked("24: order", x -> x.order(0, which));
            asked("24: order", x -> x.order(2, which));
        }
    }

    private void groups() {
        for (int p = -1; p < 3; p++) {
            int place = p;
            asked("26: group", x -> x.group(0, place));
            asked("27: border", x -> x.border(0, place));
            asked("28: bundle", x -> x.bundle((place + 3) % 3, (place + 4) % 3));
            asked("29: area", x -> x.area(0, place));
        }
    }

    private void parts() {
        for (int k = 0; k < 4; k++) {
            int one = k;
            asked("33: cell", x -> x.cell(one, one, 2 - one));
            asked("36: as", x -> x.as(one, 1));
            asked("39: many", x -> x.many(one));
        }
        asked("37: trace", x -> x.trace());
        asked("38: fault", x -> x.fault());
    }

    /** Asked again, and with other calls between, a call answers the same. */
    private void twice() {
        DialectForms x = Scene.half();
        List<Long> first = answers(x);
        List<Long> second = answers(x);
        check.isTrue("asked twice: " + first + " and " + second, first.equals(second));
    }

    /** What calls that take a FORM, or what is SAID, answer of FORMS 0 and 1. */
    private static List<Long> answers(DialectForms x) {
        List<Long> told = new ArrayList<>();
        for (int f = 0; f < 2; f++) {
            for (int what : new int[] {1, 2, 3, 10, 11}) {
                told.add((long) x.ofForm(f, what));
            }
            told.add((long) x.cost(f, 1 - f));
            told.add((long) x.align(f, 1 - f, 0));
            told.add((long) x.regular(f));
            told.add((long) x.ways(f, 7));
        }
        for (int p = 0; p < 2; p++) {
            told.add((long) x.said(p, 0));
            told.add((long) x.order(p, -1));
            told.add((long) x.group(0, p));
        }
        for (int k = -2; k < 3; k++) {
            told.add((long) x.sought(0, 7, k));
        }
        told.add((long) x.border(0, 0));
        told.add((long) x.bundle(0, 1));
        return told;
    }

    /** Two FORMS of one kind at two PLACES; the second is REGULAR, by a LAW. */
    private static DialectForms ofKind(int kind) {
        DialectForms x = Check.withPlaces(2);
        x.near(0, 1, true);
        x.sound(0, 63, 0);
        x.sound(1, 0, 63);
        Check.law(x, 2, "a>b");
        Check.root(x, 0, "ab");
        Check.form(x, kind, 0, 0, "ba");
        Check.form(x, kind, 1, 0, "bb");
        return x;
    }

    private void kinds() {
        List<Long> due = answers(ofKind(0));
        for (int kind = 1; kind < 3; kind++) {
            DialectForms x = ofKind(kind);
            check.due("8: its kind", x.ofForm(0, 0), kind);
            List<Long> got = answers(x);
            check.isTrue("8: FORMS of kind " + kind + ": " + got + ", due is " + due, got.equals(due));
        }
        check.due("22: the second is REGULAR", ofKind(2).regular(1), 1);
        check.due("24: by the LAWS there", ofKind(1).order(1, -1), 1);
        check.due("23: four ways", ofKind(2).ways(1, 3), 4);
        check.due("27: a BORDER", ofKind(1).border(0, 0), 1);
        check.due("28: a BUNDLE", ofKind(2).bundle(0, 1), 1);
    }
}
