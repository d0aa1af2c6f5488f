import java.util.ArrayList;
import java.util.List;

/**
 * All promises: each refusal and each FAULT that a call's line tells, alone and together with every choice of the others:
 * which is come to first, what fault() tells behind it, and that nothing is changed that a later call shows.
 */
public final class RefusalsTest {
    private static final long LOST = Long.MIN_VALUE;
    private static final int UNKNOWN = -1, OUTSIDE = -2, STATE = -3, FULL = -4;
    private static final int NULL = 1, CAST = 2, INDEX = 3, SIZE = 4;
    private static final int NO_FAULT = 0;
    /** What fault() tells ahead of the call, by a put() beside the row: what a call that names no FAULTS leaves. */
    private static final int AHEAD = INDEX;
    /** In place of an argument's number: the object is full. */
    private static final int OBJECT = -1;

    private interface Call {
        long on(DialectForms x, int[] a);
    }

    /** One thing that is wrong: an argument and the number it has then, with the answer and the fault() due. */
    private record Wrong(int argument, int number, long answer, int fault) { }

    private final Check check = new Check();
    private final List<Long> half = Scene.shown(Scene.half());
    private final List<Long> full = Scene.shown(Scene.full());

    private String what;
    private boolean namesFaults;
    private int[] right;
    private Call call;
    private final List<Wrong> wrongs = new ArrayList<>();

    public static void main(String[] args) {
        RefusalsTest test = new RefusalsTest();
        test.scenes();
        test.sounds();
        test.entry();
        test.places();
        test.form();
        test.read();
        test.roots();
        test.law();
        test.laws();
        test.costs();
        test.sought();
        test.groups();
        test.sheets();
        test.cell();
        test.parts();
        test.check.end();
    }

    private void begin(String named, boolean faults, Call asked, int... arguments) {
        what = named;
        namesFaults = faults;
        call = asked;
        right = arguments;
        wrongs.clear();
    }

    private void wrong(int argument, int number, int answer) {
        int fault = answer <= -10 && answer >= -14 ? -10 - answer : NO_FAULT;
        wrongs.add(new Wrong(argument, number, answer, fault));
    }

    /** What is wrong with cells: CAST, NULL, SIZE, INDEX, by the numbers of the arguments sheet, i and n. */
    private void wrongCells(int sheet, int i, int n) {
        wrong(sheet, 1, -10 - CAST);
        wrong(sheet, 3, -10 - NULL);
        wrong(n, -1, -10 - SIZE);
        wrong(i, Scene.CELLS + 1, -10 - INDEX);
        wrong(n, Scene.CELLS + 1, -10 - INDEX);
    }

    /** Asks the call with each choice of what may be wrong; what was told first is due. */
    private void end() {
        for (int choice = 0; choice < 1 << wrongs.size(); choice++) {
            ask(choice);
        }
    }

    private void ask(int choice) {
        int[] arguments = right.clone();
        boolean isFull = false;
        Wrong first = null;
        // the first is set last: where two are of one argument, it is that of the first
        for (int k = wrongs.size() - 1; k >= 0; k--) {
            if ((choice >> k & 1) == 0) {
                continue;
            }
            first = wrongs.get(k);
            if (first.argument == OBJECT) {
                isFull = true;
            } else {
                arguments[first.argument] = first.number;
            }
        }
        DialectForms x = isFull ? Scene.full() : Scene.half();
        x.put(1, -1, 0);
        String named = what + java.util.Arrays.toString(arguments) + (isFull ? ", full" : "");
        long got = call.on(x, arguments);
        if (first == null) {
            check.isTrue(named + " is right, but answered " + got, got >= 0 || got == DialectForms.NONE);
            check.due(named + ": fault() of a good call", x.fault(), namesFaults ? NO_FAULT : AHEAD);
            return;
        }
        check.due(named, got, first.answer);
        check.due(named + ": fault()", x.fault(), namesFaults ? first.fault : AHEAD);
        check.isTrue(named + ": it changes nothing", Scene.shown(x).equals(isFull ? full : half));
    }

    /** What is told of the objects has come to stand: else it could not show a change. */
    private void scenes() {
        int[][] due = {{3, 4, 2, 3}, {8, 40, 8, 3}};
        for (int what = 0; what < 4; what++) {
            check.due("39: many(" + what + ") of the first", Scene.half().many(what), due[0][what]);
            check.due("39: many(" + what + ") of the full one", Scene.full().many(what), due[1][what]);
        }
    }

    private void sounds() {
        begin("2: sound", false, (x, a) -> x.sound(a[0], a[1], a[2]), 3, 1, 2);
        wrong(0, 16, UNKNOWN);
        wrong(0, -1, UNKNOWN);
        wrong(1, 64, OUTSIDE);
        wrong(1, -1, OUTSIDE);
        wrong(2, 64, OUTSIDE);
        wrong(2, -1, OUTSIDE);
        wrong(1, 3, OUTSIDE);
        end();
        begin("3: feature", false, (x, a) -> x.feature(a[0], a[1]), 0, 0);
        wrong(0, 16, UNKNOWN);
        wrong(0, -1, UNKNOWN);
        wrong(1, 6, OUTSIDE);
        wrong(1, -1, OUTSIDE);
        end();
        begin("4: differ", false, (x, a) -> x.differ(a[0], a[1]), 0, 1);
        wrong(0, 16, UNKNOWN);
        wrong(0, -1, UNKNOWN);
        wrong(1, 16, UNKNOWN);
        wrong(1, -1, UNKNOWN);
        end();
    }

    private void entry() {
        begin("5: entry", true, (x, a) -> x.entry(a[0], a[1], a[2], a[3], a[4], a[5]), 0, 9, 0, 2, 0, 2);
        wrong(0, 3, UNKNOWN);
        wrong(1, 16, UNKNOWN);
        wrong(2, 4, UNKNOWN);
        wrong(3, 3, OUTSIDE);
        wrongCells(2, 4, 5);
        wrong(5, 0, OUTSIDE);
        wrong(5, 4, OUTSIDE);
        wrong(4, Scene.WRONG, OUTSIDE);
        wrong(OBJECT, 0, FULL);
        end();
    }

    private void places() {
        begin("6: place", false, (x, a) -> x.place());
        wrong(OBJECT, 0, FULL);
        end();
        begin("7: near", false, (x, a) -> x.near(a[0], a[1], a[2] == 1), 1, 2, 1);
        wrong(0, 8, UNKNOWN);
        wrong(0, -1, UNKNOWN);
        wrong(1, 8, UNKNOWN);
        wrong(1, -1, UNKNOWN);
        wrong(1, 1, OUTSIDE);
        end();
    }

    private void form() {
        begin("8: form", true, (x, a) -> x.form(a[0], a[1], a[2], a[3], a[4], a[5], a[6]), 2, 0, 0, 0, 2, 0, 2);
        wrong(1, 8, UNKNOWN);
        wrong(2, 6, UNKNOWN);
        wrong(3, 4, UNKNOWN);
        wrong(0, 3, OUTSIDE);
        wrong(4, 3, OUTSIDE);
        wrongCells(3, 5, 6);
        wrong(6, 9, OUTSIDE);
        wrong(5, Scene.WRONG - 1, UNKNOWN);
        wrong(OBJECT, 0, FULL);
        end();
        begin("10: ofForm", false, (x, a) -> x.ofForm(a[0], a[1]), 0, 3);
        wrong(0, 40, UNKNOWN);
        wrong(0, -1, UNKNOWN);
        wrong(1, 4, OUTSIDE);
        wrong(1, 9, OUTSIDE);
        wrong(1, -1, OUTSIDE);
        end();
    }

    private void read() {
        begin("9: read", true, (x, a) -> x.read(a[0], a[1], a[2], a[3], a[4], a[5], a[6]), 0, 0, 0, 0, 2, 0, 2);
        wrong(0, 3, UNKNOWN);
        wrong(1, 8, UNKNOWN);
        wrong(2, 6, UNKNOWN);
        wrong(3, 4, UNKNOWN);
        wrong(4, 3, OUTSIDE);
        wrongCells(3, 5, 6);
        wrong(5, Scene.WRONG, -100);
        wrong(5, Scene.WRONG - 1, -101);
        wrong(OBJECT, 0, FULL);
        end();
        begin("11: said", false, (x, a) -> x.said(a[0], a[1]), 0, 0);
        wrong(0, 8, UNKNOWN);
        wrong(0, -1, UNKNOWN);
        wrong(1, 6, UNKNOWN);
        wrong(1, -1, UNKNOWN);
        end();
    }

    private void roots() {
        begin("12: root", true, (x, a) -> x.root(a[0], a[1], a[2], a[3], a[4]), 2, 0, 2, 0, 2);
        wrong(0, 6, UNKNOWN);
        wrong(1, 4, UNKNOWN);
        wrong(2, 3, OUTSIDE);
        wrongCells(1, 3, 4);
        wrong(4, 9, OUTSIDE);
        wrong(3, Scene.WRONG - 1, UNKNOWN);
        end();
        begin("13: ofRoot", false, (x, a) -> x.ofRoot(a[0], a[1]), 0, 0);
        wrong(0, 6, UNKNOWN);
        wrong(0, -1, UNKNOWN);
        wrong(1, 8, UNKNOWN);
        wrong(1, -2, UNKNOWN);
        end();
    }

    private void law() {
        begin("14: law", true, (x, a) -> x.law(a[0], a[1], a[2], a[3], a[4]), 7, 0, 2, Scene.TEXT, 3);
        wrong(1, 4, UNKNOWN);
        wrong(0, 256, OUTSIDE);
        wrong(0, -1, OUTSIDE);
        wrong(2, 3, OUTSIDE);
        wrongCells(1, 3, 4);
        wrong(3, 0, -100);
        wrong(4, 2, -102);
        wrong(4, 4, -103);
        wrong(OBJECT, 0, FULL);
        end();
    }

    private void laws() {
        begin("15: force", false, (x, a) -> x.force(a[0], a[1]), 0, 4);
        wrong(0, 8, UNKNOWN);
        wrong(0, -1, UNKNOWN);
        wrong(1, 256, OUTSIDE);
        wrong(1, -1, OUTSIDE);
        end();
        begin("16: derived", false, (x, a) -> x.derived(a[0], a[1], a[2], a[3]), 0, 0, 8, 0);
        wrong(0, 8, UNKNOWN);
        wrong(1, 6, UNKNOWN);
        wrong(3, 8, UNKNOWN);
        wrong(3, -2, UNKNOWN);
        wrong(2, 9, OUTSIDE);
        wrong(2, -1, OUTSIDE);
        wrong(1, 5, STATE);
        end();
        begin("17: latest", false, (x, a) -> x.latest(a[0], a[1]), 0, 0);
        wrong(0, 8, UNKNOWN);
        wrong(1, 6, UNKNOWN);
        wrong(1, 5, STATE);
        end();
    }

    private void costs() {
        begin("18: gap", false, (x, a) -> x.gap(a[0]), 7);
        wrong(0, 0, OUTSIDE);
        wrong(0, 21, OUTSIDE);
        end();
        begin("19: cost", false, (x, a) -> x.cost(a[0], a[1]), 0, 1);
        wrong(0, 40, UNKNOWN);
        wrong(1, 40, UNKNOWN);
        end();
        begin("20: align", false, (x, a) -> x.align(a[0], a[1], a[2]), 0, 1, 0);
        wrong(0, 40, UNKNOWN);
        wrong(1, 40, UNKNOWN);
        wrong(2, 16, UNKNOWN);
        wrong(2, -2, UNKNOWN);
        end();
    }

    private void sought() {
        begin("21: sought", false, (x, a) -> x.sought(a[0], a[1], a[2]), 0, 7, -2);
        wrong(0, 6, UNKNOWN);
        wrong(2, 3, UNKNOWN);
        wrong(2, -3, UNKNOWN);
        wrong(1, 0, OUTSIDE);
        wrong(1, 63, OUTSIDE);
        wrong(1, 65537, OUTSIDE);
        wrong(0, 5, STATE);
        end();
        begin("22: regular", false, (x, a) -> x.regular(a[0]), 0);
        wrong(0, 40, UNKNOWN);
        wrong(0, -1, UNKNOWN);
        wrong(0, 3, STATE);
        end();
        begin("23: ways", false, (x, a) -> x.ways(a[0], a[1]), 0, 7);
        wrong(0, 40, UNKNOWN);
        wrong(1, 0, OUTSIDE);
        wrong(1, 63, OUTSIDE);
        wrong(1, 65537, OUTSIDE);
        end();
        begin("24: order", false, (x, a) -> x.order(a[0], a[1]), 0, 0);
        wrong(0, 8, UNKNOWN);
        wrong(1, 8, UNKNOWN);
        wrong(1, -2, UNKNOWN);
        wrong(OBJECT, 0, STATE);
        end();
    }

    private void groups() {
        begin("25: limit", false, (x, a) -> x.limit(a[0]), 9);
        wrong(0, -1, OUTSIDE);
        wrong(0, 100, OUTSIDE);
        end();
        begin("26: group", false, (x, a) -> x.group(a[0], a[1]), 0, 0);
        wrong(0, 6, UNKNOWN);
        wrong(1, 8, UNKNOWN);
        wrong(1, -2, UNKNOWN);
        end();
        begin("27: border", false, (x, a) -> x.border(a[0], a[1]), 0, 0);
        wrong(0, 6, UNKNOWN);
        wrong(1, 28, UNKNOWN);
        wrong(1, -2, UNKNOWN);
        end();
        begin("28: bundle", false, (x, a) -> x.bundle(a[0], a[1]), 0, 1);
        wrong(0, 8, UNKNOWN);
        wrong(1, 8, UNKNOWN);
        wrong(1, 0, OUTSIDE);
        end();
        begin("29: area", false, (x, a) -> x.area(a[0], a[1]), 0, 0);
        wrong(0, 8, UNKNOWN);
        wrong(1, 8, UNKNOWN);
        wrong(1, -2, UNKNOWN);
        end();
    }

    private void sheets() {
        begin("30: sheet", true, (x, a) -> x.sheet(a[0], a[1], a[2]), 0, 0, 5);
        wrong(0, 4, UNKNOWN);
        wrong(0, -1, UNKNOWN);
        wrong(1, 3, OUTSIDE);
        wrong(1, -1, OUTSIDE);
        wrong(2, 61, OUTSIDE);
        wrong(2, -1, -10 - SIZE);
        end();
        begin("31: lose", false, (x, a) -> x.lose(a[0]), 0);
        wrong(0, 4, UNKNOWN);
        wrong(0, -1, UNKNOWN);
        end();
        begin("32: put", true, (x, a) -> x.put(a[0], a[1], a[2]), 0, 0, 5);
        wrong(0, 4, UNKNOWN);
        wrong(0, -1, UNKNOWN);
        wrong(0, 3, -10 - NULL);
        wrong(1, Scene.CELLS, -10 - INDEX);
        wrong(1, -1, -10 - INDEX);
        end();
    }

    private void cell() {
        begin("33: cell", true, (x, a) -> x.cell(a[0], a[1], a[2]), 0, 0, 2);
        wrongs.add(new Wrong(0, 4, LOST, NO_FAULT));
        wrongs.add(new Wrong(0, -1, LOST, NO_FAULT));
        wrongs.add(new Wrong(2, 3, LOST, NO_FAULT));
        wrongs.add(new Wrong(2, -1, LOST, NO_FAULT));
        wrongs.add(new Wrong(0, 1, LOST, CAST));
        wrongs.add(new Wrong(0, 3, LOST, NULL));
        wrongs.add(new Wrong(1, Scene.CELLS, LOST, INDEX));
        wrongs.add(new Wrong(1, -1, LOST, INDEX));
        end();
    }

    private void parts() {
        begin("34: tell", false, (x, a) -> x.tell(a[0]), 0);
        wrong(0, 40, UNKNOWN);
        wrong(0, -1, UNKNOWN);
        end();
        begin("35: name", false, (x, a) -> x.name(a[0]), 0);
        wrong(0, 40, UNKNOWN);
        wrong(0, -1, UNKNOWN);
        end();
        begin("36: as", true, (x, a) -> x.as(a[0], a[1]), 1, 1);
        wrong(0, 40, UNKNOWN);
        wrong(0, -1, UNKNOWN);
        wrong(1, 3, OUTSIDE);
        wrong(1, -1, OUTSIDE);
        wrong(1, 2, -10 - CAST);
        end();
        begin("39: many", false, (x, a) -> x.many(a[0]), 0);
        wrong(0, 4, OUTSIDE);
        wrong(0, -1, OUTSIDE);
        end();
        begin("37: trace", false, (x, a) -> x.trace() == 0 ? -1 : 0);
        end();
        begin("38: fault", false, (x, a) -> x.fault());
        end();
    }
}
