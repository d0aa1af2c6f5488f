/** Promises 34 to 39: parts. */
public final class PartsTest {
    public static void main(String[] args) {
        Check check = new Check();
        tell(check);
        tellOfEdges(check);
        name(check);
        as(check);
        trace(check);
        traceWraps(check);
        fault(check);
        many(check);
        check.end();
    }

    private static DialectForms object() {
        DialectForms x = Check.withPlaces(1);
        Check.form(x, 0, 0, 0, "abc");
        Check.form(x, 1, 0, 0, "ab");
        Check.form(x, 2, 0, 0, "abcd");
        return x;
    }

    private static int left(int... bodies) {
        int trace = 0;
        for (int body : bodies) {
            trace = 31 * trace + body;
        }
        return trace;
    }

    private static void tell(Check check) {
        DialectForms x = object();
        check.due("34: a FORM", x.tell(0), 3);
        check.due("34: its TRACE", x.trace(), left(1));
        check.due("34: a LOAN", x.tell(1), 12);
        check.due("34: its TRACE", x.trace(), left(1, 2, 1));
        check.due("34: a GUESS", x.tell(2), 18);
        check.due("34: its TRACE", x.trace(), left(1, 2, 1, 3, 2, 1, 1));
        check.due("34: no FORM", x.tell(3), -1);
        check.due("34: no FORM", x.tell(-1), -1);
        check.due("34: refusals leave nothing", x.trace(), left(1, 2, 1, 3, 2, 1, 1));
    }

    private static void tellOfEdges(Check check) {
        DialectForms x = Check.withPlaces(1);
        int[] ofNothing = {0, 10, 10};
        int[] ofEight = {8, 18, 26};
        for (int kind = 0; kind < 3; kind++) {
            Check.form(x, kind, 0, 0, "");
            Check.form(x, kind, 0, 0, "aaaaaaaa");
            check.due("34: of no SOUNDS, kind " + kind, x.tell(2 * kind), ofNothing[kind]);
            check.due("34: of eight SOUNDS, kind " + kind, x.tell(2 * kind + 1), ofEight[kind]);
            check.due("35: NAMED, kind " + kind, x.name(2 * kind), kind == 2 ? 70 : 2 * kind);
        }
        for (int f = 6; f < 40; f++) {
            Check.form(x, 1, 0, 0, "");
        }
        check.due("35: the last FORM", x.name(39), 39);
    }

    private static void name(Check check) {
        DialectForms x = object();
        check.due("35: a FORM", x.name(0), 0);
        check.due("35: its TRACE", x.trace(), left(4));
        check.due("35: a LOAN", x.name(1), 1);
        check.due("35: its TRACE", x.trace(), left(4, 4));
        check.due("35: a GUESS", x.name(2), 70);
        check.due("35: its TRACE", x.trace(), left(4, 4, 5));
        check.due("35: no FORM", x.name(3), -1);
        check.due("35: no FORM", x.name(-1), -1);
        check.due("35: refusals leave nothing", x.trace(), left(4, 4, 5));
    }

    private static void as(Check check) {
        DialectForms x = object();
        for (int f = 0; f < 3; f++) {
            for (int kind = 0; kind < 3; kind++) {
                check.due("36: " + f + " as " + kind, x.as(f, kind), kind <= f ? 1 : -12);
                check.due("36: fault", x.fault(), kind <= f ? 0 : 2);
            }
            check.due("36: kind 3", x.as(f, 3), -2);
            check.due("36: fault of a refusal", x.fault(), 0);
            check.due("36: kind -1", x.as(f, -1), -2);
        }
        x.as(0, 2);
        check.due("36: no FORM ahead of kind", x.as(3, 3), -1);
        check.due("36: fault of a refusal", x.fault(), 0);
        check.due("36: no FORM", x.as(-1, 0), -1);
        check.due("36: it leaves no TRACE", x.trace(), 0);
    }

    private static void trace(Check check) {
        DialectForms x = object();
        int due = 0;
        for (int k = 0; k < 20; k++) {
            x.tell(2);
            due = (((due * 31 + 3) * 31 + 2) * 31 + 1) * 31 + 1;
            check.due("37: it wraps", x.trace(), due);
        }
        check.due("37: it stays", x.trace(), due);
    }

    private static void traceWraps(Check check) {
        DialectForms x = object();
        // 31 times 118333824 and 4 is 3668348548, beyond an int; 31 times what it wraps to is beyond it on the other side
        int[] due = {4, 128, 3972, 123136, 3817220, 118333824, -626618748, 2049655296, -885195260};
        check.due("37: at first", x.trace(), 0);
        for (int step : due) {
            x.name(0);
            check.due("37: it wraps", x.trace(), step);
        }
    }

    private static void fault(Check check) {
        DialectForms x = object();
        x.put(0, 0, 0);
        check.due("38: NULL", x.fault(), 1);
        check.due("38: it stays", x.fault(), 1);
        // none of these names a FAULT
        x.sound(16, 0, 0);
        x.feature(0, 0);
        x.differ(0, 16);
        x.place();
        x.near(0, 1, true);
        x.ofForm(0, 0);
        x.said(0, 0);
        x.ofRoot(0, 0);
        x.force(0, 0);
        x.derived(0, 0, 0, 0);
        x.latest(0, 0);
        x.gap(0);
        x.cost(0, 1);
        x.align(0, 1, 0);
        x.sought(0, 1, 0);
        x.regular(0);
        x.ways(0, 1);
        x.order(0, 0);
        x.limit(3);
        x.group(0, 0);
        x.border(0, 0);
        x.bundle(0, 1);
        x.area(0, 0);
        x.lose(3);
        x.tell(0);
        x.name(0);
        x.trace();
        x.many(0);
        check.due("38: still that", x.fault(), 1);
        x.as(0, 0);
        check.due("38: none", x.fault(), 0);
    }

    private static void many(Check check) {
        DialectForms x = object();
        x.place();
        Check.law(x, 1, "a>b");
        Check.root(x, 5, "a");
        Check.root(x, 0, "");
        check.due("39: PLACES", x.many(0), 2);
        check.due("39: FORMS", x.many(1), 3);
        check.due("39: LAWS", x.many(2), 1);
        check.due("39: ROOTS", x.many(3), 2);
        check.due("39: 4", x.many(4), -2);
        check.due("39: -1", x.many(-1), -2);
    }
}
