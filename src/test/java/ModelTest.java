import java.lang.reflect.Method;
import java.util.ArrayDeque;
import java.util.ArrayList;
import java.util.Arrays;
import java.util.Deque;
import java.util.HashMap;
import java.util.List;
import java.util.Map;
import java.util.Random;

/**
 * Long runs of calls, right and wrong ones, each answered by the program and by the model: they must agree. Every other
 * run is dense: it fills three sheets ahead and takes its rows from them, so that more of its calls tell something.
 */
public final class ModelTest {
    private static final int RUNS = 1500, CALLS = 512;
    private static final int[] STRANGE = {-2, -1, 0, 1, 8, 9, 16, 40, 63, 64, 128, 255, 256, 65536,
        Integer.MIN_VALUE, Integer.MAX_VALUE};
    private static final String[] TEXTS = {"a>b", "b>a", "a>c/b_", "c>0", "+0>b", "-1>c/_#", "b>0/#_", "c>a/+2_-0",
        "a>0/_a", "+1>a/-2_", "b>c/_", "d>b/a_b", "-0>d/#_#", "a>b/_+", "a>", "a>b/#", "q>a", "+6>a", "a>b/_bb",
        "a>a", "p>o/-5_+5", "a>0/0_", "a>1", "b>b/_#", ""};

    private final Random random;
    private final boolean dense;
    private final List<int[]> textCells = new ArrayList<>();
    private final DialectForms program = new DialectForms();
    private final Model model = new Model();
    private final Map<String, Method> ofProgram = new HashMap<>();
    private final Map<String, Method> ofModel = new HashMap<>();
    private final Deque<String> history = new ArrayDeque<>();
    private int calls = 0;
    private boolean agreed = true;

    private ModelTest(int seed) {
        random = new Random(seed);
        dense = seed % 2 == 1;
        for (Method m : DialectForms.class.getDeclaredMethods()) {
            ofProgram.put(m.getName(), m);
        }
        for (Method m : Model.class.getDeclaredMethods()) {
            ofModel.put(m.getName(), m);
        }
    }

    private void call(String name, Object... arguments) throws ReflectiveOperationException {
        if (calls >= CALLS || !agreed) {
            return;
        }
        calls++;
        Object got = ofProgram.get(name).invoke(program, arguments);
        Object want = ofModel.get(name).invoke(model, arguments);
        history.add(name + Arrays.toString(arguments) + " " + want);
        if (!got.equals(want)) {
            agreed = false;
            System.out.println(String.join("\n", history) + "\n  but the program answered " + got);
        }
    }

    /** Mostly 0 .. most, now and then a number that is hardly right. */
    private int upTo(int most) {
        if (random.nextInt(25) == 0) {
            return random.nextBoolean() ? most + 1 : STRANGE[random.nextInt(STRANGE.length)];
        }
        return most < 0 ? most + 1 : random.nextInt(most + 1);
    }

    private int from(int least, int most) {
        return random.nextInt(25) == 0 ? upTo(most) : least + random.nextInt(most - least + 1);
    }

    private int placeNumber() {
        return upTo(model.many(0) - 1);
    }

    private int formNumber() {
        return upTo(model.many(1) - 1);
    }

    private int places() {
        return random.nextInt(30) == 0 ? upTo(256) : random.nextInt(1 << model.many(0));
    }

    private int letters() {
        return random.nextInt(8) == 0 ? random.nextInt(1 << 16) : 1 + random.nextInt(31);
    }

    /** Fills a sheet, and answers what a call takes of it, now and then not quite that. */
    private Object[] cells(int... wanted) throws ReflectiveOperationException {
        int sheet = dense ? 3 : random.nextInt(4);
        int lane = random.nextInt(3);
        int ahead = random.nextInt(6) == 0 ? random.nextInt(4) : 0;
        int behind = random.nextInt(6) == 0 ? random.nextInt(4) : 0;
        call("sheet", sheet, lane, ahead + wanted.length + behind);
        for (int k = 0; k < wanted.length; k++) {
            if (wanted[k] != 0) {
                call("put", sheet, ahead + k, wanted[k]);
            }
        }
        if (random.nextInt(60) == 0) {
            call("lose", sheet);
        }
        int n = random.nextInt(15) == 0 ? upTo(10) : wanted.length;
        int i = random.nextInt(40) == 0 ? upTo(10) : ahead;
        return new Object[] {upToMostly(sheet), upToMostly(lane), i, n};
    }

    private void fill(int sheet, int lane, int... cells) throws ReflectiveOperationException {
        call("sheet", sheet, lane, cells.length);
        for (int k = 0; k < cells.length; k++) {
            if (cells[k] != 0) {
                call("put", sheet, k, cells[k]);
            }
        }
    }

    private void fillAhead() throws ReflectiveOperationException {
        fill(0, 1, random.ints(24, 0, 2 + random.nextInt(3)).toArray());
        fill(1, 0, random.ints(16, 1, 3).toArray());
        StringBuilder texts = new StringBuilder();
        for (int k = 0; k < 8; k++) {
            String text = TEXTS[random.nextInt(13)];
            textCells.add(new int[] {texts.length(), text.length()});
            texts.append(text);
        }
        fill(2, 2, texts.toString().chars().limit(60).toArray());
        for (int p = 0; p < 8; p++) {
            call("place");
        }
        for (int l = random.nextInt(8); l > 0; l--) {
            call("law", after(lawCells(), places()));
        }
        for (int k = 0; k < 24; k++) {
            call("form", after(soundCells(), upTo(2), placeNumber(), meaning()));
            call("near", placeNumber(), placeNumber(), true);
        }
        for (int k = 0; k < 10; k++) {
            call("root", after(soundCells(), meaning()));
            call("entry", after(codeCells(3), upTo(1), upTo(15)));
        }
    }

    private Object[] partOf(int sheet, int lane, int most, int size) {
        int n = random.nextInt(most + 1);
        return new Object[] {sheet, lane, random.nextInt(size - n + 1), n};
    }

    private Object[] soundCells() throws ReflectiveOperationException {
        int most = random.nextInt(4) == 0 ? 9 : 4;
        return isFilled() ? partOf(0, 1, most, 24) : cells(soundRow(most));
    }

    private Object[] codeCells(int most) throws ReflectiveOperationException {
        return isFilled() ? partOf(1, 0, most, 16) : cells(codeRow(most));
    }

    private Object[] lawCells() throws ReflectiveOperationException {
        if (!isFilled()) {
            return cells(text());
        }
        int[] part = textCells.get(random.nextInt(textCells.size()));
        return new Object[] {2, 2, part[0], part[1]};
    }

    private boolean isFilled() {
        return dense && random.nextInt(20) != 0;
    }

    /** A dense run has two MEANINGS alone for most of its calls. */
    private int meaning() {
        return dense && random.nextInt(8) != 0 ? random.nextInt(2) : upTo(5);
    }

    /** A dense run leaves what it has filled ahead as it is. */
    private int spareSheet() {
        return dense ? 3 + upTo(1) : upTo(3);
    }

    private int upToMostly(int right) {
        return random.nextInt(40) == 0 ? upTo(4) : right;
    }

    private Object[] after(Object[] taken, Object... first) {
        Object[] all = Arrays.copyOf(first, first.length + taken.length);
        System.arraycopy(taken, 0, all, first.length, taken.length);
        return all;
    }

    private int[] soundRow(int most) {
        int[] row = new int[random.nextInt(most + 1)];
        for (int k = 0; k < row.length; k++) {
            row[k] = random.nextInt(80) == 0 ? upTo(15) : random.nextInt(random.nextInt(6) == 0 ? 16 : 4);
        }
        return row;
    }

    private int[] codeRow(int most) {
        int[] row = new int[random.nextInt(most + 1)];
        for (int k = 0; k < row.length; k++) {
            row[k] = random.nextInt(60) == 0 ? upTo(127) : 1 + random.nextInt(2);
        }
        return row;
    }

    private int[] text() {
        String signs = "abcdp+-0125>/_#";
        int[] text = TEXTS[random.nextInt(TEXTS.length)].chars().toArray();
        if (text.length > 0 && random.nextInt(4) == 0) {
            text[random.nextInt(text.length)] = signs.charAt(random.nextInt(signs.length()));
        }
        return text;
    }

    private void tellSomething() throws ReflectiveOperationException {
        switch (random.nextInt(14)) {
            case 0 -> call("sound", upTo(15), upTo(63), 0);
            case 1 -> call("sound", random.nextInt(4), random.nextInt(8), random.nextInt(8) << 3);
            case 2 -> tellFeatures();
            case 3 -> call("entry", after(codeCells(3), upTo(2), upTo(15)));
            case 4 -> call("place");
            case 5, 6 -> call("near", placeNumber(), placeNumber(), random.nextInt(4) != 0);
            case 7, 8 -> call("form", after(soundCells(), upTo(2), placeNumber(), meaning()));
            case 9 -> call("read", after(codeCells(12), upTo(2), placeNumber(), meaning()));
            case 10 -> call("root", after(soundCells(), meaning()));
            case 11 -> call("law", after(lawCells(), places()));
            case 12 -> call("force", upTo(model.many(2) - 1), places());
            default -> call(random.nextBoolean() ? "gap" : "limit", random.nextBoolean() ? upTo(20) : upTo(99));
        }
    }

    private void tellFeatures() throws ReflectiveOperationException {
        int yes = random.nextInt(64);
        call("sound", random.nextInt(4), yes, random.nextInt(64) & ~yes);
    }

    private void askOfRows() throws ReflectiveOperationException {
        switch (random.nextInt(12)) {
            case 0 -> call("feature", upTo(15), upTo(5));
            case 1 -> call("differ", upTo(15), upTo(15));
            case 2 -> call("ofForm", formNumber(), random.nextBoolean() ? upTo(4) : 10 + upTo(8));
            case 3 -> call("said", placeNumber(), meaning());
            case 4 -> call("ofRoot", meaning(), from(-1, 7));
            case 5 -> call("derived", placeNumber(), meaning(), upTo(8), from(-1, 3));
            case 6 -> call("latest", placeNumber(), meaning());
            case 7 -> call("cost", formNumber(), formNumber());
            case 8, 9 -> call("align", formNumber(), formNumber(), from(-1, random.nextInt(3) == 0 ? 15 : 4));
            case 10 -> call("sought", meaning(), letters(), from(-2, 2));
            default -> call("ways", formNumber(), letters());
        }
    }

    private void askOfAll() throws ReflectiveOperationException {
        switch (random.nextInt(14)) {
            case 0 -> call("regular", formNumber());
            case 1 -> call("order", placeNumber(), from(-1, 7));
            case 2 -> call("group", meaning(), from(-1, 7));
            case 3 -> call("border", meaning(), from(-1, random.nextInt(3) == 0 ? 27 : 3));
            case 4 -> call("bundle", placeNumber(), placeNumber());
            case 5 -> call("area", upTo(model.many(2) - 1), from(-1, 7));
            case 6 -> call("cell", upTo(3), upTo(10), upTo(2));
            case 7 -> call("put", spareSheet(), upTo(10), random.nextInt());
            case 8 -> call("tell", formNumber());
            case 9 -> call("name", formNumber());
            case 10 -> call("as", formNumber(), upTo(2));
            case 11 -> call("sheet", spareSheet(), upTo(2), upTo(60));
            case 12 -> call("lose", spareSheet());
            default -> call("many", upTo(3));
        }
    }

    private boolean run() throws ReflectiveOperationException {
        if (dense) {
            fillAhead();
        }
        for (int p = random.nextInt(9); p > 0; p--) {
            call("place");
        }
        while (calls < CALLS && agreed) {
            int which = random.nextInt(9);
            if (which < 3) {
                tellSomething();
            } else if (which < 6) {
                askOfRows();
            } else {
                askOfAll();
            }
            if (random.nextInt(4) == 0) {
                call(random.nextBoolean() ? "fault" : "trace");
            }
        }
        return agreed;
    }

    public static void main(String[] args) throws ReflectiveOperationException {
        for (int seed = 0; seed < RUNS; seed++) {
            if (!new ModelTest(seed).run()) {
                System.out.println("run " + seed + " is not as the model's");
                System.exit(1);
            }
        }
        System.out.println("all answers are as due");
    }
}
