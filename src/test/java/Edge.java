import java.util.function.IntToLongFunction;

/** Asks one call with many numbers in one place, around the edges of what is allowed there; shared by the tests. */
final class Edge {
    private static final int[] FAR = {Integer.MIN_VALUE, Integer.MIN_VALUE + 1, -65536, -256, -100,
        255, 256, 65535, 65536, 1 << 30, Integer.MAX_VALUE - 1, Integer.MAX_VALUE};

    private final Check check;

    Edge(Check check) {
        this.check = check;
    }

    /** Each of least .. most is taken; what is beside them, near and far, is answered by the refusal. */
    void range(String what, int least, int most, long refusal, IntToLongFunction call) {
        taken(what, least, most, call);
        below(what, least, refusal, call);
        above(what, most, refusal, call);
    }

    void taken(String what, int least, int most, IntToLongFunction call) {
        for (int v = least; v <= most; v++) {
            long got = call.applyAsLong(v);
            check.isTrue(what + " " + v + " is allowed, but answered " + got, isAnswer(got));
        }
    }

    void below(String what, int least, long due, IntToLongFunction call) {
        answered(what, least - 2, least - 1, due, call);
        for (int v : FAR) {
            if (v < least) {
                check.due(what + " " + v, call.applyAsLong(v), due);
            }
        }
    }

    void above(String what, int most, long due, IntToLongFunction call) {
        answered(what, most + 1, most + 2, due, call);
        for (int v : FAR) {
            if (v > most) {
                check.due(what + " " + v, call.applyAsLong(v), due);
            }
        }
    }

    void answered(String what, int from, int to, long due, IntToLongFunction call) {
        for (int v = from; v <= to; v++) {
            check.due(what + " " + v, call.applyAsLong(v), due);
        }
    }

    private static boolean isAnswer(long got) {
        return got >= 0 || got == DialectForms.NONE;
    }
}
