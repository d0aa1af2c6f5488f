import java.util.ArrayList;
import java.util.Comparator;
import java.util.List;
import java.util.regex.Matcher;
import java.util.regex.Pattern;

/**
 * The document once more, by other means than the program's: rows are texts of letters, LAWS are read by a regular
 * expression, COSTS are counted from the front, rows and orders are made by recursion, GROUPS by renaming.
 */
public final class Model {
    private static final int UNKNOWN = -1, OUTSIDE = -2, STATE = -3, FULL = -4, NONE = -9;
    private static final String TARGET = "([a-p]|[+-][0-5])";
    private static final Pattern TEXT =
        Pattern.compile(TARGET + ">([a-p0])(?:/(" + TARGET + "|#)?_(" + TARGET + "|#)?)?");

    private record Entry(String codes, char letter) { }

    private record Spoken(int kind, int place, int meaning, String row) { }

    private static final class Rule {
        String target = "";
        String result = "";
        String left = "";
        String right = "";
        int places = 0;
    }

    private final int[][] features = new int[16][6];
    private final List<List<Entry>> collectors = List.of(new ArrayList<>(), new ArrayList<>(), new ArrayList<>());
    private final boolean[][] nears = new boolean[8][8];
    private final List<Spoken> forms = new ArrayList<>();
    private final String[] roots = new String[6];
    private final List<Rule> laws = new ArrayList<>();
    private final Object[] sheets = new Object[4];
    private int places = 0;
    private int gap = 6;
    private int limit = 3;
    private int trace = 0;
    private int fault = 0;

    public Model() {
        for (int[] sound : features) {
            java.util.Arrays.fill(sound, NONE);
        }
    }

    private static boolean outside(int v, int least, int most) {
        return v < least || v > most;
    }

    private boolean noPlace(int p) {
        return outside(p, 0, places - 1);
    }

    private boolean noForm(int f) {
        return outside(f, 0, forms.size() - 1);
    }

    private static boolean noMeaning(int m) {
        return outside(m, 0, 5);
    }

    private boolean badPlaces(int set) {
        return set < 0 || set >= 1 << places;
    }

    private static boolean badSounds(int set) {
        return set < 1 || set > 65535 || Integer.bitCount(set) > 5;
    }

    public int sound(int x, int yes, int no) {
        if (outside(x, 0, 15)) {
            return UNKNOWN;
        }
        if (outside(yes, 0, 63) || outside(no, 0, 63) || (yes & no) > 0) {
            return OUTSIDE;
        }
        int changed = 0;
        for (int f = 0; f < 6; f++) {
            int to = (yes >> f & 1) == 1 ? 1 : (no >> f & 1) == 1 ? 0 : NONE;
            changed = features[x][f] != to ? 1 : changed;
            features[x][f] = to;
        }
        return changed;
    }

    public int feature(int x, int f) {
        return outside(x, 0, 15) ? UNKNOWN : outside(f, 0, 5) ? OUTSIDE : features[x][f];
    }

    public int differ(int x, int y) {
        if (outside(x, 0, 15) || outside(y, 0, 15)) {
            return UNKNOWN;
        }
        int sum = 0;
        for (int f = 0; f < 6; f++) {
            int a = features[x][f];
            int b = features[y][f];
            if (a != b) {
                sum += a == NONE || b == NONE ? 1 : 2;
            }
        }
        return sum;
    }

    private int fail(int which) {
        fault = which;
        return -10 - which;
    }

    private static int lane(Object row) {
        return row instanceof byte[] ? 0 : row instanceof short[] ? 1 : 2;
    }

    private static int length(Object row) {
        return java.lang.reflect.Array.getLength(row);
    }

    private int[] cells;

    private int take(int sheet, int lane, int i, int n) {
        Object row = sheets[sheet];
        if (row != null && lane(row) != lane) {
            return fail(2);
        }
        if (row == null) {
            return fail(1);
        }
        if (n < 0) {
            return fail(4);
        }
        if (i < 0 || i > length(row) || (long) i + n > length(row)) {
            return fail(3);
        }
        cells = new int[n];
        for (int k = 0; k < n; k++) {
            cells[k] = java.lang.reflect.Array.getInt(row, i + k);
        }
        return 0;
    }

    private String asText() {
        StringBuilder text = new StringBuilder();
        for (int c : cells) {
            text.append(outside(c, 0, 127) ? '\u1000' : (char) c);
        }
        return text.toString();
    }

    private String asRow() {
        StringBuilder row = new StringBuilder();
        for (int c : cells) {
            if (outside(c, 0, 15)) {
                return null;
            }
            row.append((char) ('a' + c));
        }
        return row.toString();
    }

    public int entry(int collector, int x, int sheet, int lane, int i, int n) {
        fault = 0;
        if (outside(collector, 0, 2) || outside(x, 0, 15) || outside(sheet, 0, 3)) {
            return UNKNOWN;
        }
        if (outside(lane, 0, 2)) {
            return OUTSIDE;
        }
        int failed = take(sheet, lane, i, n);
        if (failed != 0) {
            return failed;
        }
        if (outside(n, 1, 3) || asText().indexOf('\u1000') >= 0) {
            return OUTSIDE;
        }
        List<Entry> entries = collectors.get(collector);
        if (entries.size() == 10) {
            return FULL;
        }
        entries.add(0, new Entry(asText(), (char) ('a' + x)));
        return entries.size();
    }

    public int place() {
        return places == 8 ? FULL : places++;
    }

    public int near(int p, int q, boolean is) {
        if (noPlace(p) || noPlace(q)) {
            return UNKNOWN;
        }
        if (p == q) {
            return OUTSIDE;
        }
        int answer = nears[p][q] == is ? 0 : 1;
        nears[p][q] = is;
        nears[q][p] = is;
        return answer;
    }

    private int add(int kind, int p, int meaning, String row) {
        if (forms.size() == 40) {
            return FULL;
        }
        forms.add(new Spoken(kind, p, meaning, row));
        return forms.size() - 1;
    }

    public int form(int kind, int p, int meaning, int sheet, int lane, int i, int n) {
        fault = 0;
        if (noPlace(p) || noMeaning(meaning) || outside(sheet, 0, 3)) {
            return UNKNOWN;
        }
        if (outside(kind, 0, 2) || outside(lane, 0, 2)) {
            return OUTSIDE;
        }
        int failed = take(sheet, lane, i, n);
        if (failed != 0) {
            return failed;
        }
        if (n > 8) {
            return OUTSIDE;
        }
        return asRow() == null ? UNKNOWN : add(kind, p, meaning, asRow());
    }

    public int read(int collector, int p, int meaning, int sheet, int lane, int i, int n) {
        fault = 0;
        if (outside(collector, 0, 2) || noPlace(p) || noMeaning(meaning) || outside(sheet, 0, 3)) {
            return UNKNOWN;
        }
        if (outside(lane, 0, 2)) {
            return OUTSIDE;
        }
        int failed = take(sheet, lane, i, n);
        if (failed != 0) {
            return failed;
        }
        String text = asText();
        String row = "";
        int at = 0;
        while (at < text.length()) {
            String rest = text.substring(at);
            // the latest stand first, and of equals min() answers the first
            Entry found = collectors.get(collector).stream().filter(e -> rest.startsWith(e.codes()))
                .min(Comparator.comparingInt(e -> -e.codes().length())).orElse(null);
            if (found == null || row.length() == 8) {
                return -100 - at;
            }
            row += found.letter();
            at += found.codes().length();
        }
        return add(0, p, meaning, row);
    }

    public int ofForm(int f, int what) {
        if (noForm(f)) {
            return UNKNOWN;
        }
        Spoken told = forms.get(f);
        if (!outside(what, 0, 3)) {
            return new int[] {told.kind(), told.place(), told.meaning(), told.row().length()}[what];
        }
        return outside(what, 10, 9 + told.row().length()) ? OUTSIDE : told.row().charAt(what - 10) - 'a';
    }

    public int said(int p, int meaning) {
        if (noPlace(p) || noMeaning(meaning)) {
            return UNKNOWN;
        }
        for (int f = forms.size() - 1; f >= 0; f--) {
            if (forms.get(f).place() == p && forms.get(f).meaning() == meaning) {
                return f;
            }
        }
        return NONE;
    }

    private String saidRow(int p, int meaning) {
        int f = said(p, meaning);
        return f < 0 ? null : forms.get(f).row();
    }

    public int root(int meaning, int sheet, int lane, int i, int n) {
        fault = 0;
        if (noMeaning(meaning) || outside(sheet, 0, 3)) {
            return UNKNOWN;
        }
        if (outside(lane, 0, 2)) {
            return OUTSIDE;
        }
        int failed = take(sheet, lane, i, n);
        if (failed != 0) {
            return failed;
        }
        if (n > 8) {
            return OUTSIDE;
        }
        if (asRow() == null) {
            return UNKNOWN;
        }
        roots[meaning] = asRow();
        return n;
    }

    private static int of(String row, int k) {
        return k == -1 ? row.length() : k < row.length() ? row.charAt(k) - 'a' : NONE;
    }

    public int ofRoot(int meaning, int k) {
        if (noMeaning(meaning) || outside(k, -1, 7)) {
            return UNKNOWN;
        }
        return roots[meaning] == null ? NONE : of(roots[meaning], k);
    }

    private static String orEmpty(String part) {
        return part == null ? "" : part;
    }

    public int law(int set, int sheet, int lane, int i, int n) {
        fault = 0;
        if (outside(sheet, 0, 3)) {
            return UNKNOWN;
        }
        if (badPlaces(set) || outside(lane, 0, 2)) {
            return OUTSIDE;
        }
        int failed = take(sheet, lane, i, n);
        if (failed != 0) {
            return failed;
        }
        String text = asText();
        for (int k = 1; k <= text.length(); k++) {
            Matcher begun = TEXT.matcher(text.substring(0, k));
            if (!begun.matches() && !begun.hitEnd()) {
                return -100 - (k - 1);
            }
        }
        Matcher whole = TEXT.matcher(text);
        if (!whole.matches()) {
            return -100 - text.length();
        }
        if (laws.size() == 8) {
            return FULL;
        }
        Rule rule = new Rule();
        rule.target = whole.group(1);
        rule.result = whole.group(2).replace("0", "");
        rule.left = orEmpty(whole.group(3));
        rule.right = orEmpty(whole.group(5));
        rule.places = set;
        laws.add(rule);
        return laws.size() - 1;
    }

    public int force(int l, int set) {
        if (outside(l, 0, laws.size() - 1)) {
            return UNKNOWN;
        }
        if (badPlaces(set)) {
            return OUTSIDE;
        }
        int before = laws.get(l).places;
        laws.get(l).places = set;
        return before;
    }

    /** The row stands between two signs #, so that a side # is a letter like any other. */
    private boolean tells(String part, char letter) {
        if (part.isEmpty() || part.charAt(0) == letter) {
            return true;
        }
        if (part.length() < 2 || letter == '#') {
            return false;
        }
        return features[letter - 'a'][part.charAt(1) - '0'] == (part.charAt(0) == '+' ? 1 : 0);
    }

    private String done(Rule rule, String row) {
        String edged = "#" + row + "#";
        StringBuilder made = new StringBuilder();
        for (int k = 1; k <= row.length(); k++) {
            boolean meant = tells(rule.target, edged.charAt(k)) && tells(rule.left, edged.charAt(k - 1))
                && tells(rule.right, edged.charAt(k + 1));
            made.append(meant ? rule.result : edged.substring(k, k + 1));
        }
        return made.toString();
    }

    private List<Integer> inForce(int p) {
        List<Integer> numbers = new ArrayList<>();
        for (int l = 0; l < laws.size(); l++) {
            if ((laws.get(l).places & 1 << p) != 0) {
                numbers.add(l);
            }
        }
        return numbers;
    }

    private String derive(String row, List<Integer> numbers) {
        String made = row;
        for (int l : numbers) {
            made = done(laws.get(l), made);
        }
        return made;
    }

    public int derived(int p, int meaning, int n, int k) {
        if (noPlace(p) || noMeaning(meaning) || outside(k, -1, 7)) {
            return UNKNOWN;
        }
        if (outside(n, 0, 8)) {
            return OUTSIDE;
        }
        if (roots[meaning] == null) {
            return STATE;
        }
        List<Integer> numbers = inForce(p);
        return of(derive(roots[meaning], numbers.subList(0, Math.min(n, numbers.size()))), k);
    }

    public int latest(int p, int meaning) {
        if (noPlace(p) || noMeaning(meaning)) {
            return UNKNOWN;
        }
        if (roots[meaning] == null) {
            return STATE;
        }
        List<Integer> numbers = inForce(p);
        for (int k = numbers.size(); k > 0; k--) {
            String before = derive(roots[meaning], numbers.subList(0, k - 1));
            if (!before.equals(derive(roots[meaning], numbers.subList(0, k)))) {
                return numbers.get(k - 1);
            }
        }
        return NONE;
    }

    public int gap(int v) {
        if (outside(v, 1, 20)) {
            return OUTSIDE;
        }
        int before = gap;
        gap = v;
        return before;
    }

    private int costs(String a, String b) {
        int[][] least = new int[a.length() + 1][b.length() + 1];
        for (int i = 0; i <= a.length(); i++) {
            for (int j = 0; j <= b.length(); j++) {
                int best = i == 0 && j == 0 ? 0 : Integer.MAX_VALUE;
                if (i > 0) {
                    best = Math.min(best, least[i - 1][j] + gap);
                }
                if (j > 0) {
                    best = Math.min(best, least[i][j - 1] + gap);
                }
                if (i > 0 && j > 0) {
                    best = Math.min(best, least[i - 1][j - 1] + differ(a.charAt(i - 1) - 'a', b.charAt(j - 1) - 'a'));
                }
                least[i][j] = best;
            }
        }
        return least[a.length()][b.length()];
    }

    public int cost(int f, int g) {
        return noForm(f) || noForm(g) ? UNKNOWN : costs(forms.get(f).row(), forms.get(g).row());
    }

    private void lay(String a, String b, List<Integer> columns) {
        if (a.isEmpty() && b.isEmpty()) {
            return;
        }
        int due = costs(a, b);
        if (!a.isEmpty() && !b.isEmpty()) {
            int x = a.charAt(0) - 'a';
            int y = b.charAt(0) - 'a';
            if (differ(x, y) + costs(a.substring(1), b.substring(1)) == due) {
                columns.add(100 * (x + 1) + y + 1);
                lay(a.substring(1), b.substring(1), columns);
                return;
            }
        }
        if (!a.isEmpty() && gap + costs(a.substring(1), b) == due) {
            columns.add(100 * (a.charAt(0) - 'a' + 1));
            lay(a.substring(1), b, columns);
            return;
        }
        columns.add(b.charAt(0) - 'a' + 1);
        lay(a, b.substring(1), columns);
    }

    public int align(int f, int g, int k) {
        if (noForm(f) || noForm(g) || outside(k, -1, 15)) {
            return UNKNOWN;
        }
        List<Integer> columns = new ArrayList<>();
        lay(forms.get(f).row(), forms.get(g).row(), columns);
        return k == -1 ? columns.size() : k < columns.size() ? columns.get(k) : NONE;
    }

    private static void rows(String begun, int set, List<String> all) {
        all.add(begun);
        for (int x = 15; x >= 0 && begun.length() < 3; x--) {
            if ((set & 1 << x) != 0) {
                rows(begun + (char) ('a' + x), set, all);
            }
        }
    }

    private int together(String row, int meaning) {
        int sum = 0;
        for (int p = 0; p < places; p++) {
            String spoken = saidRow(p, meaning);
            sum += spoken == null ? 0 : costs(derive(row, inForce(p)), spoken);
        }
        return sum;
    }

    public int sought(int meaning, int set, int k) {
        if (noMeaning(meaning) || outside(k, -2, 2)) {
            return UNKNOWN;
        }
        if (badSounds(set)) {
            return OUTSIDE;
        }
        if (forms.stream().noneMatch(f -> f.meaning() == meaning)) {
            return STATE;
        }
        List<String> all = new ArrayList<>();
        rows("", set, all);
        String best = all.stream().min(Comparator.comparingInt((String row) -> together(row, meaning))
            .thenComparingInt(String::length).thenComparing(Comparator.naturalOrder())).orElseThrow();
        return k == -2 ? together(best, meaning) : of(best, k);
    }

    public int regular(int f) {
        if (noForm(f)) {
            return UNKNOWN;
        }
        Spoken told = forms.get(f);
        String root = roots[told.meaning()];
        return root == null ? STATE : derive(root, inForce(told.place())).equals(told.row()) ? 1 : 0;
    }

    public int ways(int f, int set) {
        if (noForm(f)) {
            return UNKNOWN;
        }
        if (badSounds(set)) {
            return OUTSIDE;
        }
        List<String> all = new ArrayList<>();
        rows("", set, all);
        List<Integer> numbers = inForce(forms.get(f).place());
        return (int) all.stream().filter(row -> derive(row, numbers).equals(forms.get(f).row())).count();
    }

    private static void orders(List<Integer> begun, List<Integer> left, List<List<Integer>> all) {
        if (left.isEmpty()) {
            all.add(begun);
        }
        for (Integer l : left) {
            List<Integer> next = new ArrayList<>(begun);
            next.add(l);
            List<Integer> rest = new ArrayList<>(left);
            rest.remove(l);
            orders(next, rest, all);
        }
    }

    private int agreeing(int p, List<Integer> numbers) {
        int count = 0;
        for (int m = 0; m < 6; m++) {
            String spoken = saidRow(p, m);
            count += spoken != null && roots[m] != null && derive(roots[m], numbers).equals(spoken) ? 1 : 0;
        }
        return count;
    }

    public int order(int p, int k) {
        if (noPlace(p) || outside(k, -1, 7)) {
            return UNKNOWN;
        }
        List<Integer> numbers = inForce(p);
        if (numbers.size() > 6) {
            return STATE;
        }
        List<List<Integer>> all = new ArrayList<>();
        orders(new ArrayList<>(), numbers, all);
        // the orders come in their order, and of equals min() answers the first
        List<Integer> best = all.stream().min(Comparator.comparingInt(o -> -agreeing(p, o))).orElseThrow();
        return k == -1 ? agreeing(p, best) : k < best.size() ? best.get(k) : NONE;
    }

    public int limit(int v) {
        if (outside(v, 0, 99)) {
            return OUTSIDE;
        }
        int before = limit;
        limit = v;
        return before;
    }

    private boolean like(int p, int q, int meaning) {
        return bothSaid(p, q, meaning) && costs(saidRow(p, meaning), saidRow(q, meaning)) <= limit;
    }

    private boolean bothSaid(int p, int q, int meaning) {
        return saidRow(p, meaning) != null && saidRow(q, meaning) != null;
    }

    private static int inGroups(int[] names, int p) {
        if (p >= 0) {
            return names[p];
        }
        int count = 0;
        for (int q = 0; q < 8; q++) {
            count += names[q] == q ? 1 : 0;
        }
        return count;
    }

    private static void rename(int[] names, int a, int b) {
        for (int q = 0; q < 8; q++) {
            if (names[q] == Math.max(a, b)) {
                names[q] = Math.min(a, b);
            }
        }
    }

    public int group(int meaning, int p) {
        if (noMeaning(meaning) || p != -1 && noPlace(p)) {
            return UNKNOWN;
        }
        int[] names = new int[8];
        for (int q = 0; q < 8; q++) {
            names[q] = q < places && saidRow(q, meaning) != null ? q : NONE;
        }
        for (int a = 0; a < places; a++) {
            for (int b = 0; b < places; b++) {
                if (like(a, b, meaning)) {
                    rename(names, names[a], names[b]);
                }
            }
        }
        return inGroups(names, p);
    }

    public int border(int meaning, int k) {
        if (noMeaning(meaning) || outside(k, -1, 27)) {
            return UNKNOWN;
        }
        List<Integer> borders = new ArrayList<>();
        for (int pair = 0; pair < 80; pair++) {
            int p = pair / 10;
            int q = pair % 10;
            if (p < q && q < places && nears[p][q] && bothSaid(p, q, meaning) && !like(p, q, meaning)) {
                borders.add(pair);
            }
        }
        return k == -1 ? borders.size() : k < borders.size() ? borders.get(k) : NONE;
    }

    public int bundle(int p, int q) {
        if (noPlace(p) || noPlace(q)) {
            return UNKNOWN;
        }
        if (p == q) {
            return OUTSIDE;
        }
        int count = 0;
        for (int m = 0; m < 6; m++) {
            count += bothSaid(p, q, m) && !like(p, q, m) ? 1 : 0;
        }
        return count;
    }

    public int area(int l, int p) {
        if (outside(l, 0, laws.size() - 1) || p != -1 && noPlace(p)) {
            return UNKNOWN;
        }
        int[] names = new int[8];
        for (int q = 0; q < 8; q++) {
            names[q] = (laws.get(l).places & 1 << q) != 0 ? q : NONE;
        }
        for (int a = 0; a < 8; a++) {
            for (int b = 0; b < 8; b++) {
                if (nears[a][b] && names[a] != NONE && names[b] != NONE) {
                    rename(names, names[a], names[b]);
                }
            }
        }
        return inGroups(names, p);
    }

    public int sheet(int k, int lane, int n) {
        fault = 0;
        if (outside(k, 0, 3)) {
            return UNKNOWN;
        }
        if (outside(lane, 0, 2) || n > 60) {
            return OUTSIDE;
        }
        if (n < 0) {
            return fail(4);
        }
        sheets[k] = lane == 0 ? new byte[n] : lane == 1 ? new short[n] : new int[n];
        return 1;
    }

    public int lose(int k) {
        if (outside(k, 0, 3)) {
            return UNKNOWN;
        }
        int answer = sheets[k] == null ? 0 : 1;
        sheets[k] = null;
        return answer;
    }

    public int put(int k, int i, int v) {
        fault = 0;
        if (outside(k, 0, 3)) {
            return UNKNOWN;
        }
        if (sheets[k] == null) {
            return fail(1);
        }
        if (outside(i, 0, length(sheets[k]) - 1)) {
            return fail(3);
        }
        if (sheets[k] instanceof byte[] bytes) {
            bytes[i] = (byte) v;
        } else if (sheets[k] instanceof short[] shorts) {
            shorts[i] = (short) v;
        } else {
            ((int[]) sheets[k])[i] = v;
        }
        return 1;
    }

    public long cell(int k, int i, int lane) {
        fault = 0;
        if (outside(k, 0, 3) || outside(lane, 0, 2)) {
            return Long.MIN_VALUE;
        }
        return take(k, lane, i, 1) == 0 ? cells[0] : Long.MIN_VALUE;
    }

    private void leave(int... bodies) {
        for (int body : bodies) {
            trace = trace * 31 + body;
        }
    }

    public int tell(int f) {
        if (noForm(f)) {
            return UNKNOWN;
        }
        int size = forms.get(f).row().length();
        switch (forms.get(f).kind()) {
            case 0:
                leave(1);
                return size;
            case 1:
                leave(2, 1);
                return size + 10;
            default:
                leave(3, 2, 1, 1);
                return 2 * size + 10;
        }
    }

    public int name(int f) {
        if (noForm(f)) {
            return UNKNOWN;
        }
        boolean guess = forms.get(f).kind() == 2;
        leave(guess ? 5 : 4);
        return guess ? 70 : f;
    }

    public int as(int f, int kind) {
        fault = 0;
        if (noForm(f)) {
            return UNKNOWN;
        }
        if (outside(kind, 0, 2)) {
            return OUTSIDE;
        }
        return forms.get(f).kind() < kind ? fail(2) : 1;
    }

    public int trace() {
        return trace;
    }

    public int fault() {
        return fault;
    }

    public int many(int what) {
        switch (what) {
            case 0:
                return places;
            case 1:
                return forms.size();
            case 2:
                return laws.size();
            case 3:
                return (int) java.util.Arrays.stream(roots).filter(root -> root != null).count();
            default:
                return OUTSIDE;
        }
    }
}
