import java.util.Arrays;

/**
 * Forms of dialects, as ../shared/DOC.md promises them. Words in capitals are the document's terms.
 *
 * <p>Every row and table is made in the constructor and used again: the calls themselves make nothing.
 */
public final class DialectForms {
    public static final int UNKNOWN = -1, OUTSIDE = -2, STATE = -3, FULL = -4, NONE = -9;
    public static final long LOST = Long.MIN_VALUE;

    private static final int SOUNDS = 16, FEATURES = 6, MOST_SOUNDS = 8;
    private static final int COLLECTORS = 3, MOST_ENTRIES = 10, MOST_CODES = 3, CODES = 128;
    private static final int MOST_PLACES = 8, MEANINGS = 6, MOST_FORMS = 40;
    private static final int FORM = 0, LOAN = 1, GUESS = 2;
    private static final int MOST_LAWS = 8, MOST_ORDERED = 6, MOST_ORDERS = 720;
    private static final int MOST_GAP = 20, MOST_COLUMNS = 16, MOST_LIMIT = 99, MOST_BORDERS = 28;
    private static final int MOST_MEMBERS = 5, MOST_SOUGHT = 3;
    private static final int SHEETS = 4, LANES = 3, BYTES = 0, SHORTS = 1, MOST_CELLS = 60;
    private static final int NULL = 1, CAST = 2, INDEX = 3, SIZE = 4;
    private static final int ALL = -1;
    private static final int FIRST_FAULT = -100;

    private final Sounds sounds = new Sounds();
    private final Collector[] collectors = new Collector[COLLECTORS];
    private final int[] nearTo = new int[MOST_PLACES];
    private final Form[] forms = new Form[MOST_FORMS];
    private final int[] saidForms = new int[MOST_PLACES * MEANINGS];
    private final Row[] roots = new Row[MEANINGS];
    private final LawBook lawBook = new LawBook(sounds);
    private final Laying laying = new Laying(sounds);
    private final Candidates candidates = new Candidates();
    private final Sheet[] sheets = new Sheet[SHEETS];
    private final int[] taken = new int[MOST_CELLS];
    private final Row work = new Row();
    private final Row trial = new Row();
    private final Row best = new Row();
    private final int[] links = new int[MOST_PLACES];
    private int placeCount = 0;
    private int formCount = 0;
    private int rooted = 0;
    private int trace = 0;
    private int fault = 0;

    public DialectForms() {
        for (int c = 0; c < COLLECTORS; c++) {
            collectors[c] = new Collector();
        }
        for (int f = 0; f < MOST_FORMS; f++) {
            forms[f] = new Form();
        }
        for (int m = 0; m < MEANINGS; m++) {
            roots[m] = new Row();
        }
        for (int s = 0; s < SHEETS; s++) {
            sheets[s] = new Sheet();
        }
        Arrays.fill(saidForms, NONE);
    }

    // ---- 1 sounds, collectors

    public int sound(int x, int yes, int no) {
        if (!isBelow(x, SOUNDS)) {
            return UNKNOWN;
        }
        if (!isSetBelow(yes, FEATURES) || !isSetBelow(no, FEATURES) || (yes & no) != 0) {
            return OUTSIDE;
        }
        return sounds.become(x, yes, no) ? 1 : 0;
    }

    public int feature(int x, int f) {
        if (!isBelow(x, SOUNDS)) {
            return UNKNOWN;
        }
        if (!isBelow(f, FEATURES)) {
            return OUTSIDE;
        }
        if (isIn(f, sounds.yes[x])) {
            return 1;
        }
        return isIn(f, sounds.no[x]) ? 0 : NONE;
    }

    public int differ(int x, int y) {
        if (!isBelow(x, SOUNDS) || !isBelow(y, SOUNDS)) {
            return UNKNOWN;
        }
        return sounds.difference(x, y);
    }

    public int entry(int collector, int x, int sheet, int lane, int i, int n) {
        fault = 0;
        if (!isBelow(collector, COLLECTORS) || !isBelow(x, SOUNDS) || !isBelow(sheet, SHEETS)) {
            return UNKNOWN;
        }
        if (!isBelow(lane, LANES)) {
            return OUTSIDE;
        }
        int failed = takeCells(sheet, lane, i, n);
        if (failed != 0) {
            return failed;
        }
        if (!isWithin(n, 1, MOST_CODES) || !areTakenBelow(CODES, n)) {
            return OUTSIDE;
        }
        return collectors[collector].addEntry(x, taken, n);
    }

    // ---- 2 places, forms

    public int place() {
        if (placeCount >= MOST_PLACES) {
            return FULL;
        }
        placeCount++;
        return placeCount - 1;
    }

    public int near(int p, int q, boolean is) {
        if (!isPlace(p) || !isPlace(q)) {
            return UNKNOWN;
        }
        if (p == q) {
            return OUTSIDE;
        }
        if (isIn(q, nearTo[p]) == is) {
            return 0;
        }
        nearTo[p] ^= 1 << q;
        nearTo[q] ^= 1 << p;
        return 1;
    }

    public int form(int kind, int p, int meaning, int sheet, int lane, int i, int n) {
        fault = 0;
        if (!isPlace(p) || !isMeaning(meaning) || !isBelow(sheet, SHEETS)) {
            return UNKNOWN;
        }
        if (!isWithin(kind, FORM, GUESS) || !isBelow(lane, LANES)) {
            return OUTSIDE;
        }
        int failed = takeSounds(sheet, lane, i, n);
        if (failed != 0) {
            return failed;
        }
        work.becomeCells(taken, n);
        return addForm(kind, p, meaning);
    }

    public int read(int collector, int p, int meaning, int sheet, int lane, int i, int n) {
        fault = 0;
        if (!isBelow(collector, COLLECTORS) || !isPlace(p) || !isMeaning(meaning) || !isBelow(sheet, SHEETS)) {
            return UNKNOWN;
        }
        if (!isBelow(lane, LANES)) {
            return OUTSIDE;
        }
        int failed = takeCells(sheet, lane, i, n);
        if (failed != 0) {
            return failed;
        }
        int wrongPlace = collectors[collector].readInto(work, taken, n);
        if (wrongPlace != NONE) {
            return FIRST_FAULT - wrongPlace;
        }
        return addForm(FORM, p, meaning);
    }

    /** Adds what stands in work as a FORM. */
    private int addForm(int kind, int p, int meaning) {
        if (formCount >= MOST_FORMS) {
            return FULL;
        }
        int f = formCount;
        forms[f].become(kind, p, meaning, work);
        saidForms[p * MEANINGS + meaning] = f;
        formCount++;
        return f;
    }

    public int ofForm(int f, int what) {
        if (!isForm(f)) {
            return UNKNOWN;
        }
        Form told = forms[f];
        switch (what) {
            case 0:
                return told.kind;
            case 1:
                return told.place;
            case 2:
                return told.meaning;
            case 3:
                return told.row.size;
            default:
                return what >= 10 && what - 10 < told.row.size ? told.row.at(what - 10) : OUTSIDE;
        }
    }

    public int said(int p, int meaning) {
        if (!isPlace(p) || !isMeaning(meaning)) {
            return UNKNOWN;
        }
        return saidForms[p * MEANINGS + meaning];
    }

    public int root(int meaning, int sheet, int lane, int i, int n) {
        fault = 0;
        if (!isMeaning(meaning) || !isBelow(sheet, SHEETS)) {
            return UNKNOWN;
        }
        if (!isBelow(lane, LANES)) {
            return OUTSIDE;
        }
        int failed = takeSounds(sheet, lane, i, n);
        if (failed != 0) {
            return failed;
        }
        roots[meaning].becomeCells(taken, n);
        rooted |= 1 << meaning;
        return n;
    }

    public int ofRoot(int meaning, int k) {
        if (!isMeaning(meaning) || !isWithin(k, -1, MOST_SOUNDS - 1)) {
            return UNKNOWN;
        }
        return isIn(meaning, rooted) ? roots[meaning].sizeOrAt(k) : NONE;
    }

    // ---- 3 laws

    public int law(int places, int sheet, int lane, int i, int n) {
        fault = 0;
        if (!isBelow(sheet, SHEETS)) {
            return UNKNOWN;
        }
        if (!isSetBelow(places, placeCount) || !isBelow(lane, LANES)) {
            return OUTSIDE;
        }
        int failed = takeCells(sheet, lane, i, n);
        if (failed != 0) {
            return failed;
        }
        int wrongPlace = lawBook.readLaw(taken, n);
        if (wrongPlace != NONE) {
            return FIRST_FAULT - wrongPlace;
        }
        return lawBook.addRead(places);
    }

    public int force(int l, int places) {
        if (!isLaw(l)) {
            return UNKNOWN;
        }
        if (!isSetBelow(places, placeCount)) {
            return OUTSIDE;
        }
        int before = lawBook.laws[l].places;
        lawBook.laws[l].places = places;
        return before;
    }

    public int derived(int p, int meaning, int n, int k) {
        if (!isPlace(p) || !isMeaning(meaning) || !isWithin(k, -1, MOST_SOUNDS - 1)) {
            return UNKNOWN;
        }
        if (!isWithin(n, 0, MOST_LAWS)) {
            return OUTSIDE;
        }
        if (!isIn(meaning, rooted)) {
            return STATE;
        }
        work.become(roots[meaning]);
        lawBook.deriveAt(p, work, n);
        return work.sizeOrAt(k);
    }

    public int latest(int p, int meaning) {
        if (!isPlace(p) || !isMeaning(meaning)) {
            return UNKNOWN;
        }
        if (!isIn(meaning, rooted)) {
            return STATE;
        }
        work.become(roots[meaning]);
        return lawBook.deriveAt(p, work, MOST_LAWS);
    }

    // ---- 4 costs

    public int gap(int v) {
        if (!isWithin(v, 1, MOST_GAP)) {
            return OUTSIDE;
        }
        int before = laying.gap;
        laying.gap = v;
        return before;
    }

    public int cost(int f, int g) {
        if (!isForm(f) || !isForm(g)) {
            return UNKNOWN;
        }
        return laying.leastCost(forms[f].row, forms[g].row);
    }

    public int align(int f, int g, int k) {
        if (!isForm(f) || !isForm(g) || !isWithin(k, -1, MOST_COLUMNS - 1)) {
            return UNKNOWN;
        }
        return laying.column(forms[f].row, forms[g].row, k);
    }

    // ---- 5 roots

    public int sought(int meaning, int set, int k) {
        if (!isMeaning(meaning) || !isWithin(k, -2, MOST_SOUGHT - 1)) {
            return UNKNOWN;
        }
        if (!isSoughtSet(set)) {
            return OUTSIDE;
        }
        if (saidPlaces(meaning) == 0) {
            return STATE;
        }
        int least = seekBest(meaning, set);
        return k == -2 ? least : best.sizeOrAt(k);
    }

    /** Leaves the row whose COSTS are least in best: only a lesser one takes over, as the shortest come first. */
    private int seekBest(int meaning, int set) {
        candidates.begin(set);
        int least = Integer.MAX_VALUE;
        for (int c = 0; c < candidates.total; c++) {
            candidates.writeTo(trial, c);
            int costs = costsOfTrial(meaning, least);
            if (costs < least) {
                least = costs;
                best.become(trial);
            }
        }
        return least;
    }

    /** Leaves off where it comes to enough: such a row is no longer the best. */
    private int costsOfTrial(int meaning, int enough) {
        int costs = 0;
        for (int p = 0; p < placeCount && costs < enough; p++) {
            int f = saidForms[p * MEANINGS + meaning];
            if (!isForm(f)) {
                continue;
            }
            work.become(trial);
            lawBook.deriveAt(p, work, MOST_LAWS);
            costs += laying.leastCost(work, forms[f].row);
        }
        return costs;
    }

    public int regular(int f) {
        if (!isForm(f)) {
            return UNKNOWN;
        }
        Form told = forms[f];
        if (!isIn(told.meaning, rooted)) {
            return STATE;
        }
        work.become(roots[told.meaning]);
        lawBook.deriveAt(told.place, work, MOST_LAWS);
        return work.isSame(told.row) ? 1 : 0;
    }

    public int ways(int f, int set) {
        if (!isForm(f)) {
            return UNKNOWN;
        }
        if (!isSoughtSet(set)) {
            return OUTSIDE;
        }
        candidates.begin(set);
        int count = 0;
        for (int c = 0; c < candidates.total; c++) {
            candidates.writeTo(work, c);
            lawBook.deriveAt(forms[f].place, work, MOST_LAWS);
            if (work.isSame(forms[f].row)) {
                count++;
            }
        }
        return count;
    }

    public int order(int p, int k) {
        if (!isPlace(p) || !isWithin(k, -1, MOST_LAWS - 1)) {
            return UNKNOWN;
        }
        lawBook.collectAt(p, trial);
        if (trial.size > MOST_ORDERED) {
            return STATE;
        }
        int most = orderBest(p);
        return k == -1 ? most : best.at(k);
    }

    /** Leaves the BEST ORDER in best: trial goes through all of them in order, so only a better one takes over. */
    private int orderBest(int p) {
        int most = -1;
        boolean more = true;
        for (int c = 0; c < MOST_ORDERS && more; c++) {
            int count = regularByTrial(p);
            if (count > most) {
                most = count;
                best.become(trial);
            }
            more = trial.stepOrder();
        }
        return most;
    }

    private int regularByTrial(int p) {
        int count = 0;
        for (int m = 0; m < MEANINGS; m++) {
            int f = saidForms[p * MEANINGS + m];
            if (!isForm(f) || !isIn(m, rooted)) {
                continue;
            }
            work.become(roots[m]);
            lawBook.deriveBy(trial, work);
            if (work.isSame(forms[f].row)) {
                count++;
            }
        }
        return count;
    }

    // ---- 6 groups, borders

    public int limit(int v) {
        if (!isWithin(v, 0, MOST_LIMIT)) {
            return OUTSIDE;
        }
        int before = laying.limit;
        laying.limit = v;
        return before;
    }

    public int group(int meaning, int p) {
        if (!isMeaning(meaning) || p != ALL && !isPlace(p)) {
            return UNKNOWN;
        }
        for (int q = 0; q < MOST_PLACES; q++) {
            links[q] = likePlaces(q, meaning);
        }
        return countOrLeast(saidPlaces(meaning), links, p);
    }

    private int saidPlaces(int meaning) {
        int places = 0;
        for (int p = 0; p < placeCount; p++) {
            if (isForm(saidForms[p * MEANINGS + meaning])) {
                places |= 1 << p;
            }
        }
        return places;
    }

    private int likePlaces(int p, int meaning) {
        int places = 0;
        for (int q = 0; q < placeCount; q++) {
            if (isWithin(costBetween(p, q, meaning), 0, laying.limit)) {
                places |= 1 << q;
            }
        }
        return places;
    }

    /** NONE where not both are SAID: below any LIMIT and below 0, so neither LIKE nor unlike. */
    private int costBetween(int p, int q, int meaning) {
        int f = saidForms[p * MEANINGS + meaning];
        int g = saidForms[q * MEANINGS + meaning];
        return isForm(f) && isForm(g) ? laying.leastCost(forms[f].row, forms[g].row) : NONE;
    }

    private static int countOrLeast(int members, int[] joins, int p) {
        if (p != ALL) {
            return isIn(p, members) ? leastJoined(members, joins, p) : NONE;
        }
        int count = 0;
        for (int q = 0; q < MOST_PLACES; q++) {
            if (isIn(q, members) && leastJoined(members, joins, q) == q) {
                count++;
            }
        }
        return count;
    }

    private static int leastJoined(int members, int[] joins, int p) {
        int joined = 1 << p;
        // each round reaches at least one PLACE more, or all are reached
        for (int round = 0; round < MOST_PLACES; round++) {
            for (int q = 0; q < MOST_PLACES; q++) {
                if (isIn(q, joined)) {
                    joined |= joins[q] & members;
                }
            }
        }
        return Integer.numberOfTrailingZeros(joined);
    }

    public int border(int meaning, int k) {
        if (!isMeaning(meaning) || !isWithin(k, -1, MOST_BORDERS - 1)) {
            return UNKNOWN;
        }
        int count = 0;
        for (int p = 0; p < placeCount; p++) {
            for (int q = p + 1; q < placeCount; q++) {
                if (!isIn(q, nearTo[p]) || costBetween(p, q, meaning) <= laying.limit) {
                    continue;
                }
                if (count == k) {
                    return 10 * p + q;
                }
                count++;
            }
        }
        return k == -1 ? count : NONE;
    }

    public int bundle(int p, int q) {
        if (!isPlace(p) || !isPlace(q)) {
            return UNKNOWN;
        }
        if (p == q) {
            return OUTSIDE;
        }
        int count = 0;
        for (int m = 0; m < MEANINGS; m++) {
            if (costBetween(p, q, m) > laying.limit) {
                count++;
            }
        }
        return count;
    }

    public int area(int l, int p) {
        if (!isLaw(l) || p != ALL && !isPlace(p)) {
            return UNKNOWN;
        }
        return countOrLeast(lawBook.laws[l].places, nearTo, p);
    }

    // ---- sheets, parts

    public int sheet(int k, int lane, int n) {
        fault = 0;
        if (!isBelow(k, SHEETS)) {
            return UNKNOWN;
        }
        if (!isBelow(lane, LANES) || n > MOST_CELLS) {
            return OUTSIDE;
        }
        if (n < 0) {
            return failBy(SIZE);
        }
        sheets[k].renew(lane, n);
        return 1;
    }

    public int lose(int k) {
        if (!isBelow(k, SHEETS)) {
            return UNKNOWN;
        }
        return sheets[k].loseRow() ? 1 : 0;
    }

    public int put(int k, int i, int v) {
        fault = 0;
        if (!isBelow(k, SHEETS)) {
            return UNKNOWN;
        }
        if (!sheets[k].hasRow) {
            return failBy(NULL);
        }
        if (!isBelow(i, sheets[k].size)) {
            return failBy(INDEX);
        }
        sheets[k].putCut(i, v);
        return 1;
    }

    public long cell(int k, int i, int lane) {
        fault = 0;
        if (!isBelow(k, SHEETS) || !isBelow(lane, LANES)) {
            return LOST;
        }
        fault = sheets[k].faultOfRow(lane);
        if (fault == 0 && !isBelow(i, sheets[k].size)) {
            fault = INDEX;
        }
        return fault == 0 ? sheets[k].cells[i] : LOST;
    }

    public int tell(int f) {
        if (!isForm(f)) {
            return UNKNOWN;
        }
        switch (forms[f].kind) {
            case GUESS:
                return tellGuess(forms[f]);
            case LOAN:
                return tellLoan(forms[f]);
            default:
                return tellForm(forms[f]);
        }
    }

    private int tellForm(Form told) {
        leaveTrace(1);
        return told.row.size;
    }

    private int tellLoan(Form told) {
        leaveTrace(2);
        return tellForm(told) + 10;
    }

    private int tellGuess(Form told) {
        leaveTrace(3);
        return tellLoan(told) + tellForm(told);
    }

    public int name(int f) {
        if (!isForm(f)) {
            return UNKNOWN;
        }
        if (forms[f].kind == GUESS) {
            leaveTrace(5);
            return 70;
        }
        leaveTrace(4);
        return f;
    }

    private void leaveTrace(int body) {
        trace = 31 * trace + body;
    }

    public int as(int f, int kind) {
        fault = 0;
        if (!isForm(f)) {
            return UNKNOWN;
        }
        if (!isWithin(kind, FORM, GUESS)) {
            return OUTSIDE;
        }
        // the kinds are a chain: each is all those below it, too
        return forms[f].kind >= kind ? 1 : failBy(CAST);
    }

    public int trace() {
        return trace;
    }

    public int fault() {
        return fault;
    }

    public int many(int what) {
        switch (what) {
            case 0:
                return placeCount;
            case 1:
                return formCount;
            case 2:
                return lawBook.count;
            case 3:
                return Integer.bitCount(rooted);
            default:
                return OUTSIDE;
        }
    }

    // ---- what the calls share

    private static boolean isBelow(int number, int bound) {
        return number >= 0 && number < bound;
    }

    private static boolean isWithin(int number, int least, int most) {
        return number >= least && number <= most;
    }

    /** Whether a set has numbers below a bound alone; the bound is under 32, so the shift loses no bit. */
    private static boolean isSetBelow(int set, int bound) {
        return set >>> bound == 0;
    }

    private static boolean isIn(int number, int set) {
        return (set >> number & 1) == 1;
    }

    private static boolean isMeaning(int meaning) {
        return isBelow(meaning, MEANINGS);
    }

    private static boolean isSoughtSet(int set) {
        return isSetBelow(set, SOUNDS) && isWithin(Integer.bitCount(set), 1, MOST_MEMBERS);
    }

    private boolean isPlace(int p) {
        return isBelow(p, placeCount);
    }

    private boolean isForm(int f) {
        return isBelow(f, formCount);
    }

    private boolean isLaw(int l) {
        return isBelow(l, lawBook.count);
    }

    private int failBy(int which) {
        fault = which;
        return -10 - which;
    }

    /** Takes n cells of a SHEET from i on into taken: 0, or the answer of the FAULT that is come to. */
    private int takeCells(int sheet, int lane, int i, int n) {
        int which = sheets[sheet].faultOfCells(lane, i, n);
        if (which != 0) {
            return failBy(which);
        }
        System.arraycopy(sheets[sheet].cells, i, taken, 0, n);
        return 0;
    }

    /** Takes n SOUNDS into taken: 0, or the answer to what is wrong with them. */
    private int takeSounds(int sheet, int lane, int i, int n) {
        int failed = takeCells(sheet, lane, i, n);
        if (failed != 0) {
            return failed;
        }
        if (n > MOST_SOUNDS) {
            return OUTSIDE;
        }
        return areTakenBelow(SOUNDS, n) ? 0 : UNKNOWN;
    }

    private boolean areTakenBelow(int bound, int n) {
        for (int i = 0; i < n; i++) {
            if (!isBelow(taken[i], bound)) {
                return false;
            }
        }
        return true;
    }

    /** A row of 0 to 8 numbers: a ROW of SOUNDS, or an ORDER of LAWS. */
    private static final class Row {
        private final int[] numbers = new int[MOST_SOUNDS];
        private int size = 0;

        private void clear() {
            size = 0;
        }

        private void add(int number) {
            if (size < MOST_SOUNDS) {
                numbers[size] = number;
                size++;
            }
        }

        private void become(Row other) {
            size = other.size;
            System.arraycopy(other.numbers, 0, numbers, 0, size);
        }

        private void becomeCells(int[] cells, int n) {
            clear();
            for (int i = 0; i < n; i++) {
                add(cells[i]);
            }
        }

        private int at(int k) {
            return isBelow(k, size) ? numbers[k] : NONE;
        }

        private int sizeOrAt(int k) {
            return k == -1 ? size : at(k);
        }

        private boolean isSame(Row other) {
            if (size != other.size) {
                return false;
            }
            for (int k = 0; k < size; k++) {
                if (numbers[k] != other.numbers[k]) {
                    return false;
                }
            }
            return true;
        }

        /** Becomes the next row of the same numbers; false if this was the last. */
        private boolean stepOrder() {
            int k = size - 2;
            while (k >= 0 && numbers[k] > numbers[k + 1]) {
                k--;
            }
            if (k < 0) {
                return false;
            }
            int greater = size - 1;
            while (greater > k + 1 && numbers[greater] < numbers[k]) {
                greater--;
            }
            swap(k, greater);
            for (int low = k + 1, high = size - 1; low < high; low++, high--) {
                swap(low, high);
            }
            return true;
        }

        private void swap(int k, int j) {
            int kept = numbers[k];
            numbers[k] = numbers[j];
            numbers[j] = kept;
        }
    }

    /** A SHEET; its cells are kept as they were cut, so that no LANE needs a row of its own. */
    private static final class Sheet {
        private final int[] cells = new int[MOST_CELLS];
        private boolean hasRow = false;
        private int lane = BYTES;
        private int size = 0;

        private void renew(int toLane, int n) {
            Arrays.fill(cells, 0);
            hasRow = true;
            lane = toLane;
            size = n;
        }

        private boolean loseRow() {
            boolean had = hasRow;
            hasRow = false;
            return had;
        }

        private void putCut(int i, int v) {
            switch (lane) {
                case BYTES:
                    cells[i] = (byte) v;
                    break;
                case SHORTS:
                    cells[i] = (short) v;
                    break;
                default:
                    cells[i] = v;
                    break;
            }
        }

        private int faultOfRow(int asLane) {
            if (!hasRow) {
                return NULL;
            }
            return lane == asLane ? 0 : CAST;
        }

        private int faultOfCells(int asLane, int i, int n) {
            int ofRow = faultOfRow(asLane);
            if (ofRow != 0) {
                return ofRow;
            }
            if (n < 0) {
                return SIZE;
            }
            return isWithin(i, 0, size) && n <= size - i ? 0 : INDEX;
        }
    }

    /** What the SOUNDS have and have not. */
    private static final class Sounds {
        private final int[] yes = new int[SOUNDS];
        private final int[] no = new int[SOUNDS];

        private boolean become(int x, int toYes, int toNo) {
            if (yes[x] == toYes && no[x] == toNo) {
                return false;
            }
            yes[x] = toYes;
            no[x] = toNo;
            return true;
        }

        private int difference(int x, int y) {
            int opposed = yes[x] & no[y] | no[x] & yes[y];
            int toldOfOne = (yes[x] | no[x]) ^ (yes[y] | no[y]);
            return 2 * Integer.bitCount(opposed) + Integer.bitCount(toldOfOne);
        }

        /** Whether what stands at a place of a ROW, NONE for nothing, is what a LAW's pattern tells. */
        private boolean isOf(int x, int pattern) {
            if (pattern == Law.ANY) {
                return true;
            }
            if (!isBelow(x, SOUNDS)) {
                return pattern == Law.EDGE;
            }
            if (pattern >= Law.EDGE) {
                return false;
            }
            if (pattern >= Law.HAS_NOT) {
                return isIn(pattern - Law.HAS_NOT, no[x]);
            }
            return pattern >= Law.HAS ? isIn(pattern - Law.HAS, yes[x]) : x == pattern;
        }
    }

    /** A COLLECTOR's ENTRIES. */
    private static final class Collector {
        private final int[] codes = new int[MOST_ENTRIES * MOST_CODES];
        private final int[] sizes = new int[MOST_ENTRIES];
        private final int[] standsFor = new int[MOST_ENTRIES];
        private int count = 0;

        private int addEntry(int x, int[] cells, int n) {
            if (count >= MOST_ENTRIES) {
                return FULL;
            }
            System.arraycopy(cells, 0, codes, count * MOST_CODES, n);
            sizes[count] = n;
            standsFor[count] = x;
            count++;
            return count;
        }

        /** READS n cells into a row: the FIRST FAULT, or NONE. */
        private int readInto(Row row, int[] cells, int n) {
            row.clear();
            int at = 0;
            for (int sound = 0; sound <= MOST_SOUNDS && at < n; sound++) {
                int longest = longestAt(cells, at, n);
                if (longest == NONE || sound == MOST_SOUNDS) {
                    return at;
                }
                row.add(standsFor[longest]);
                at += sizes[longest];
            }
            return NONE;
        }

        private int longestAt(int[] cells, int at, int n) {
            int longest = NONE;
            for (int e = 0; e < count; e++) {
                boolean asLong = longest == NONE || sizes[e] >= sizes[longest];
                if (asLong && stands(e, cells, at, n)) {
                    longest = e;
                }
            }
            return longest;
        }

        private boolean stands(int e, int[] cells, int at, int n) {
            if (sizes[e] > n - at) {
                return false;
            }
            for (int c = 0; c < sizes[e]; c++) {
                if (cells[at + c] != codes[e * MOST_CODES + c]) {
                    return false;
                }
            }
            return true;
        }
    }

    private static final class Form {
        private final Row row = new Row();
        private int kind = FORM;
        private int place = 0;
        private int meaning = 0;

        private void become(int toKind, int toPlace, int toMeaning, Row toRow) {
            kind = toKind;
            place = toPlace;
            meaning = toMeaning;
            row.become(toRow);
        }
    }

    /** A LAW; a target or a side is a pattern: a SOUND, HAS or HAS_NOT and a FEATURE, EDGE, or ANY. */
    private static final class Law {
        private static final int HAS = SOUNDS, HAS_NOT = HAS + FEATURES, EDGE = HAS_NOT + FEATURES, ANY = EDGE + 1;
        private static final int NO_PATTERN = -1;
        private static final int GOES = -2;

        private int places = 0;
        private int target = ANY;
        private int result = GOES;
        private int left = ANY;
        private int right = ANY;
    }

    /** The LAWS, and what is DERIVED by them. */
    private static final class LawBook {
        // one more than there may be: a TEXT is read into the place behind the last LAW, when it is FULL, too
        private final Law[] laws = new Law[MOST_LAWS + 1];
        private final LawText text = new LawText();
        private final Row was = new Row();
        private final Sounds sounds;
        private int count = 0;

        private LawBook(Sounds sounds) {
            this.sounds = sounds;
            for (int l = 0; l <= MOST_LAWS; l++) {
                laws[l] = new Law();
            }
        }

        /** Reads a TEXT of n cells: the FIRST FAULT, or NONE. */
        private int readLaw(int[] cells, int n) {
            return text.firstFault(cells, n, laws[count]);
        }

        private int addRead(int places) {
            if (count >= MOST_LAWS) {
                return FULL;
            }
            laws[count].places = places;
            count++;
            return count - 1;
        }

        private void collectAt(int place, Row into) {
            into.clear();
            for (int l = 0; l < count; l++) {
                if (isIn(place, laws[l].places)) {
                    into.add(l);
                }
            }
        }

        /** DERIVES by the first n LAWS in force at a PLACE: the last that changes the row, or NONE. */
        private int deriveAt(int place, Row row, int n) {
            int last = NONE;
            int done = 0;
            for (int l = 0; l < count && done < n; l++) {
                if (!isIn(place, laws[l].places)) {
                    continue;
                }
                done++;
                if (doLaw(laws[l], row)) {
                    last = l;
                }
            }
            return last;
        }

        private void deriveBy(Row numbers, Row row) {
            for (int k = 0; k < numbers.size; k++) {
                int l = numbers.at(k);
                if (isBelow(l, count)) {
                    doLaw(laws[l], row);
                }
            }
        }

        /** A LAW is DONE on a row: whether it changes it. */
        private boolean doLaw(Law law, Row row) {
            was.become(row);
            row.clear();
            boolean changed = false;
            for (int k = 0; k < was.size; k++) {
                int x = was.at(k);
                boolean meant = sounds.isOf(x, law.target)
                    && sounds.isOf(was.at(k - 1), law.left)
                    && sounds.isOf(was.at(k + 1), law.right);
                int becomes = meant ? law.result : x;
                if (becomes != Law.GOES) {
                    row.add(becomes);
                }
                changed = changed || becomes != x;
            }
            return changed;
        }
    }

    /** Reads TEXTS of LAWS; where one ends wrongly, at stays on the code with which no TEXT goes on. */
    private static final class LawText {
        private final int[] codes = new int[MOST_CELLS];
        private int size = 0;
        private int at = 0;

        private int firstFault(int[] cells, int n, Law into) {
            System.arraycopy(cells, 0, codes, 0, n);
            size = n;
            at = 0;
            into.left = Law.ANY;
            into.right = Law.ANY;
            boolean good = readTarget(into) && takes('>') && readResult(into) && (isAtEnd() || readSides(into));
            return good ? NONE : at;
        }

        private boolean isAtEnd() {
            return at >= size;
        }

        private boolean isAt(char sign) {
            return at < size && codes[at] == sign;
        }

        private boolean takes(char sign) {
            boolean taken = at < size && codes[at] == sign;
            at += taken ? 1 : 0;
            return taken;
        }

        private boolean readTarget(Law into) {
            into.target = takePattern();
            return into.target != Law.NO_PATTERN;
        }

        private boolean readResult(Law into) {
            into.result = takes('0') ? Law.GOES : takeBetween('a', 'p', 0);
            return into.result != Law.NO_PATTERN;
        }

        private boolean readSides(Law into) {
            if (!takes('/')) {
                return false;
            }
            into.left = isAt('_') ? Law.ANY : takeSide();
            if (into.left == Law.NO_PATTERN || !takes('_')) {
                return false;
            }
            into.right = isAtEnd() ? Law.ANY : takeSide();
            return into.right != Law.NO_PATTERN && isAtEnd();
        }

        private int takeSide() {
            return takes('#') ? Law.EDGE : takePattern();
        }

        private int takePattern() {
            if (takes('+')) {
                return takeBetween('0', '5', Law.HAS);
            }
            return takes('-') ? takeBetween('0', '5', Law.HAS_NOT) : takeBetween('a', 'p', 0);
        }

        /** Takes a code from least to most as the pattern that is as far from first as it is from least. */
        private int takeBetween(char least, char most, int first) {
            if (at >= size || codes[at] < least || codes[at] > most) {
                return Law.NO_PATTERN;
            }
            at++;
            return first + codes[at - 1] - least;
        }
    }

    /** Lays ROWS beside one another. */
    private static final class Laying {
        private static final int SIDE = MOST_SOUNDS + 1;

        // what the rest of the first from i on and of the second from j on costs, at i * SIDE + j
        private final int[] rest = new int[SIDE * SIDE];
        private final Sounds sounds;
        private int gap = 6;
        private int limit = 3;

        private Laying(Sounds sounds) {
            this.sounds = sounds;
        }

        private int leastCost(Row first, Row second) {
            for (int i = first.size; i >= 0; i--) {
                for (int j = second.size; j >= 0; j--) {
                    if (i == first.size || j == second.size) {
                        rest[i * SIDE + j] = (first.size - i + second.size - j) * gap;
                        continue;
                    }
                    int alone = Math.min(rest[(i + 1) * SIDE + j], rest[i * SIDE + j + 1]) + gap;
                    rest[i * SIDE + j] = Math.min(alone, costOfPair(first, second, i, j));
                }
            }
            return rest[0];
        }

        private int costOfPair(Row first, Row second, int i, int j) {
            return sounds.difference(first.numbers[i], second.numbers[j]) + rest[(i + 1) * SIDE + j + 1];
        }

        /** The k-th column of the rows ALIGNED, or NONE; with k -1 how many there are. */
        private int column(Row first, Row second, int k) {
            leastCost(first, second);
            int i = 0;
            int j = 0;
            int columns = 0;
            while (columns < MOST_COLUMNS && (i < first.size || j < second.size)) {
                boolean pair = isPair(first, second, i, j);
                boolean takesFirst = pair || isFirstAlone(first, i, j);
                boolean takesSecond = pair || !takesFirst;
                if (columns == k) {
                    return (takesFirst ? 100 * (first.at(i) + 1) : 0) + (takesSecond ? second.at(j) + 1 : 0);
                }
                i += takesFirst ? 1 : 0;
                j += takesSecond ? 1 : 0;
                columns++;
            }
            return k == -1 ? columns : NONE;
        }

        private boolean isPair(Row first, Row second, int i, int j) {
            return i < first.size && j < second.size && rest[i * SIDE + j] == costOfPair(first, second, i, j);
        }

        private boolean isFirstAlone(Row first, int i, int j) {
            return i < first.size && rest[i * SIDE + j] == rest[(i + 1) * SIDE + j] + gap;
        }
    }

    /** All rows of 0 to 3 SOUNDS of a set, by numbers: the shortest first, those of one length in their order. */
    private static final class Candidates {
        private final int[] members = new int[MOST_MEMBERS];
        private int count = 0;
        private int total = 0;

        private void begin(int set) {
            count = 0;
            for (int x = 0; x < SOUNDS && count < MOST_MEMBERS; x++) {
                if (isIn(x, set)) {
                    members[count] = x;
                    count++;
                }
            }
            total = 1 + count * (1 + count * (1 + count));
        }

        private void writeTo(Row row, int number) {
            row.clear();
            if (count < 1) {
                return;
            }
            int left = number;
            int ofSize = 1;
            while (row.size < MOST_SOUGHT && left >= ofSize) {
                left -= ofSize;
                ofSize *= count;
                row.size++;
            }
            for (int k = row.size - 1; k >= 0; k--) {
                row.numbers[k] = members[left % count];
                left /= count;
            }
        }
    }
}
