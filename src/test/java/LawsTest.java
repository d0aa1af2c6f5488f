/** Promises 14 to 17: laws. */
public final class LawsTest {
    public static void main(String[] args) {
        Check check = new Check();
        goodTexts(check);
        wrongTexts(check);
        codes(check);
        lawRefusals(check);
        nothingStaysOfWrongTexts(check);
        force(check);
        done(check);
        sides(check);
        everyFeature(check);
        featuresApart(check);
        everyLetter(check);
        derived(check);
        latest(check);
        check.end();
    }

    private static void goodTexts(Check check) {
        String[] texts = {"a>p", "p>0", "+0>a", "-5>0", "a>b/_", "a>b/c_", "a>b/_c", "a>b/#_#", "a>b/+0_-5",
            "a>b/-1_#", "+5>p/p_p", "a>a"};
        for (String text : texts) {
            DialectForms x = Check.withPlaces(1);
            check.due("14: " + text, Check.law(x, 1, text), 0);
            check.due("14: " + text, Check.law(x, 0, text), 1);
            check.due("14: LAWS", x.many(2), 2);
        }
    }

    private static void wrongTexts(Check check) {
        Object[][] texts = {{"", 0}, {"a", 1}, {"a>", 2}, {"+", 1}, {"+1", 2}, {"+1>", 3}, {"a>b/", 4}, {"a>b/#", 5},
            {"a>b/+", 5}, {"a>b/+2", 6}, {"a>b/_-", 6}, {">", 0}, {"#>a", 0}, {"_", 0}, {"0>a", 0}, {"q>a", 0},
            {"`>a", 0}, {"aa", 1}, {"+6>a", 1}, {"+/>a", 1}, {"+a", 1}, {"--", 1}, {"a>q", 2}, {"a>1", 2}, {"a>+1", 2},
            {"a>#", 2}, {"a>/", 2}, {"a>>", 2}, {"a>bb", 3}, {"a>b>", 3}, {"a>b_", 3}, {"a>00", 3}, {"a>b//", 4},
            {"a>b/0_", 4}, {"a>b/q_", 4}, {"a>b/>", 4}, {"a>b/aa", 5}, {"a>b/##", 5}, {"a>b/+6", 5}, {"a>b/__", 5},
            {"a>b/_0", 5}, {"a>b/_/", 5}, {"a>b/_aa", 6}, {"a>b/_##", 6}, {"a>b/_+6", 6}, {"a>b/a_b/", 7},
            {"a>b/+1_-2 ", 9}, {"A>b", 0}, {"a>b ", 3}, {" a>b", 0}};
        DialectForms x = Check.withPlaces(1);
        for (Object[] text : texts) {
            check.due("14: " + text[0], Check.law(x, 1, (String) text[0]), -100 - (Integer) text[1]);
            check.due("14: fault() tells no FIRST FAULT", x.fault(), 0);
            if (x.many(2) != 0) {
                check.due("14: a wrong TEXT changes nothing", x.many(2), 0);
            }
            x = Check.withPlaces(1);
        }
        Check.cells(x, 0, 'b', 'a' + 256, '>', 'b');
        check.due("14: a code beyond a byte", x.law(1, 0, 2, 1, 3), -100);
        check.due("14: the TEXT from i on alone", x.law(1, 0, 2, 2, 2), -100);
        Check.cells(x, 0, 'b', 'a', '>', 'b', '/', 'q');
        check.due("14: TEXTS from i on", x.law(1, 0, 2, 1, 4), -104);
        check.due("14: TEXTS from i on", x.law(1, 0, 2, 1, 3), 0);
    }

    private static final String LETTERS = "abcdefghijklmnop", FEATURES = "012345";

    /** What begins a TEXT, with the codes with which it goes on; every other code is the FIRST FAULT. */
    private static void codes(Check check) {
        goesOn(check, "", LETTERS + "+-");
        goesOn(check, "+", FEATURES);
        goesOn(check, "-", FEATURES);
        goesOn(check, "a", ">");
        goesOn(check, "+0", ">");
        goesOn(check, "-5", ">");
        goesOn(check, "a>", LETTERS + "0");
        goesOn(check, "a>b", "/");
        goesOn(check, "a>0", "/");
        goesOn(check, "+5>p", "/");
        goesOn(check, "a>b/", LETTERS + "+-#_");
        goesOn(check, "a>b/+", FEATURES);
        goesOn(check, "a>b/-", FEATURES);
        goesOn(check, "a>b/c", "_");
        goesOn(check, "a>b/#", "_");
        goesOn(check, "a>b/+3", "_");
        goesOn(check, "a>b/-3", "_");
        goesOn(check, "a>b/_", LETTERS + "+-#");
        goesOn(check, "a>b/c_", LETTERS + "+-#");
        goesOn(check, "a>b/#_", LETTERS + "+-#");
        goesOn(check, "a>b/_+", FEATURES);
        goesOn(check, "a>b/_-", FEATURES);
        goesOn(check, "a>b/_c", "");
        goesOn(check, "a>b/_#", "");
        goesOn(check, "a>b/#_+3", "");
        goesOn(check, "+1>0/-2_-3", "");
    }

    private static void goesOn(Check check, String begun, String good) {
        int place = begun.length();
        for (int code = -2; code <= 400; code++) {
            DialectForms x = Check.withPlaces(1);
            x.sheet(0, 2, 20);
            for (int i = 0; i < place; i++) {
                x.put(0, i, begun.charAt(i));
            }
            x.put(0, place, code);
            String what = "14: " + begun + " and then " + code;
            int got = x.law(1, 0, 2, 0, place + 1);
            if (good.indexOf(code) < 0) {
                check.due(what, got, -100 - place);
                check.due(what + " and more", x.law(1, 0, 2, 0, 20), -100 - place);
            } else {
                check.isTrue(what + " answered " + got, got == 0 || got == -100 - place - 1);
                check.due(what + " and then 0", x.law(1, 0, 2, 0, place + 2), -100 - place - 1);
            }
        }
    }

    private static void lawRefusals(Check check) {
        DialectForms x = Check.withPlaces(2);
        check.due("14: SHEET ahead of places", x.law(4, 4, 3, 0, 0), -1);
        check.due("14: SHEET", x.law(0, -1, 0, 0, 0), -1);
        check.due("14: a bit of none", x.law(4, 0, 0, 0, 0), -2);
        check.due("14: bits of none", x.law(-1, 0, 0, 0, 0), -2);
        check.due("14: lane", x.law(3, 0, 3, 0, 0), -2);
        check.due("14: NULL", x.law(3, 0, 0, 0, -1), -11);
        check.due("14: fault", x.fault(), 1);
        x.sheet(0, 1, 3);
        check.due("14: CAST", x.law(3, 0, 2, 0, -1), -12);
        check.due("14: fault", x.fault(), 2);
        check.due("14: SIZE", x.law(3, 0, 1, 9, -1), -14);
        check.due("14: fault", x.fault(), 4);
        check.due("14: INDEX", x.law(3, 0, 1, 4, 0), -13);
        check.due("14: fault", x.fault(), 3);
        check.due("14: none at the end", x.law(3, 0, 1, 3, 0), -100);
        check.due("14: fault of a FIRST FAULT", x.fault(), 0);
        x.law(3, 0, 1, 4, 0);
        check.due("14: a refusal ahead of the FAULTS", x.law(4, 0, 1, 4, 0), -2);
        check.due("14: fault of a refusal", x.fault(), 0);
        for (int l = 0; l < 8; l++) {
            check.due("14: LAW", Check.law(x, 3, "a>b"), l);
        }
        check.due("14: FIRST FAULT ahead of FULL", Check.law(x, 3, "a>"), -102);
        check.due("14: FULL", Check.law(x, 3, "a>c"), -4);
        check.due("14: LAWS", x.many(2), 8);
        Check.root(x, 0, "a");
        check.isTrue("14: FULL changes nothing", Check.derived(x, 0, 0, 8).equals("b"));
    }

    private static void nothingStaysOfWrongTexts(Check check) {
        DialectForms x = Check.withPlaces(1);
        Check.root(x, 0, "aaa");
        check.due("14: a wrong TEXT", Check.law(x, 1, "a>c/#_#a"), -107);
        check.due("14: a good one", Check.law(x, 1, "a>b"), 0);
        check.isTrue("14: without sides", Check.derived(x, 0, 0, 8).equals("bbb"));
        check.due("14: a wrong TEXT", Check.law(x, 1, "b>c/#_#a"), -107);
        check.due("14: a shorter one", Check.law(x, 1, "b>c/#"), -105);
        check.due("14: a shorter one", Check.law(x, 1, "b>"), -102);
        check.due("14: a shorter one", Check.law(x, 1, "b"), -101);
        check.due("14: a good one", Check.law(x, 1, "b>0/_"), 1);
        check.isTrue("14: without sides", Check.derived(x, 0, 0, 8).equals(""));
    }

    private static void force(Check check) {
        DialectForms x = Check.withPlaces(2);
        Check.law(x, 1, "a>b");
        Check.root(x, 0, "a");
        check.due("15: at which it was", x.force(0, 2), 1);
        check.isTrue("15: no longer", Check.derived(x, 0, 0, 8).equals("a"));
        check.isTrue("15: but there", Check.derived(x, 1, 0, 8).equals("b"));
        check.due("15: nowhere", x.force(0, 0), 2);
        check.due("15: everywhere", x.force(0, 3), 0);
        check.due("15: no LAW", x.force(1, 4), -1);
        check.due("15: no LAW", x.force(-1, 0), -1);
        check.due("15: a bit of none", x.force(0, 4), -2);
        check.due("15: bits of none", x.force(0, -1), -2);
        check.due("15: refusals change nothing", x.force(0, 3), 3);
    }

    /** What one LAW makes of a ROOT, a being +0 -1, b +0 and c -0. */
    private static String made(String text, String root) {
        DialectForms x = Check.withPlaces(1);
        x.sound(0, 1, 2);
        x.sound(1, 1, 0);
        x.sound(2, 0, 1);
        Check.law(x, 1, text);
        Check.root(x, 0, root);
        return Check.derived(x, 0, 0, 8);
    }

    private static void made(Check check, String text, String root, String due) {
        check.isTrue("16: " + text + " of " + root + " gives " + made(text, root), made(text, root).equals(due));
    }

    private static void done(Check check) {
        made(check, "a>b", "aabca", "bbbcb");
        made(check, "a>0", "aabca", "bc");
        made(check, "a>0", "aaaaaaaa", "");
        made(check, "a>0", "", "");
        made(check, "+0>d", "abcd", "ddcd");
        made(check, "-0>d", "abcd", "abdd");
        made(check, "-1>0", "abcd", "bcd");
        made(check, "+5>a", "abcd", "abcd");
        made(check, "p>o", "ppop", "oooo");
    }

    private static void sides(Check check) {
        made(check, "a>b/_#", "aaa", "aab");
        made(check, "a>b/#_", "aaa", "baa");
        made(check, "a>b/#_#", "aaa", "aaa");
        made(check, "a>b/#_#", "a", "b");
        made(check, "a>c/b_", "babaab", "bcbcab");
        made(check, "a>c/_b", "babaab", "bcbacb");
        made(check, "a>c/b_b", "babab", "bcbcb");
        made(check, "a>0/a_", "aaaa", "a");
        made(check, "a>0/_a", "baaa", "ba");
        made(check, "a>c/_", "aba", "cbc");
        made(check, "a>b/b_", "baa", "bba");
        made(check, "d>a/+0_-0", "adcbdccd", "aacbaccd");
        made(check, "d>a/-0_+0", "cdadbda", "caadbda");
        made(check, "d>a/-1_", "addbd", "aadbd");
        made(check, "d>a/_+5", "dddd", "dddd");
        made(check, "+0>c/_+0", "ab", "cb");
    }

    /** What a LAW makes of a ROOT, where FEATURE f is yes of a, no of b, and every other one the other way round. */
    private static String made(int f, String text, String root) {
        DialectForms x = Check.withPlaces(1);
        x.sound(0, 1 << f, 63 & ~(1 << f));
        x.sound(1, 63 & ~(1 << f), 1 << f);
        Check.law(x, 1, text);
        Check.root(x, 0, root);
        return Check.derived(x, 0, 0, 8);
    }

    private static void everyFeature(Check check) {
        for (int f = 0; f < 6; f++) {
            check.isTrue("16: yes of FEATURE " + f, made(f, "+" + f + ">p", "abc").equals("pbc"));
            check.isTrue("16: no of FEATURE " + f, made(f, "-" + f + ">p", "abc").equals("apc"));
            check.isTrue("16: yes on the left", made(f, "c>p/+" + f + "_", "cacbcc").equals("capbcc"));
            check.isTrue("16: no on the left", made(f, "c>p/-" + f + "_", "cacbcc").equals("cacbpc"));
            check.isTrue("16: yes on the right", made(f, "c>p/_+" + f, "ccacbc").equals("cpacbc"));
            check.isTrue("16: no on the right", made(f, "c>p/_-" + f, "ccacbc").equals("ccapbc"));
        }
    }

    /** What a LAW makes of the ROOT oao, where one FEATURE of a is yes, or no, and nothing else is told. */
    private static String made(boolean yes, int f, String text) {
        DialectForms x = Check.withPlaces(1);
        x.sound(0, yes ? 1 << f : 0, yes ? 0 : 1 << f);
        Check.law(x, 1, text);
        Check.root(x, 0, "oao");
        return Check.derived(x, 0, 0, 8);
    }

    /** A target or a side of one FEATURE is none of another one, and yes is not no. */
    private static void featuresApart(Check check) {
        for (int told = 0; told < 12; told++) {
            for (int meant = 0; meant < 12; meant++) {
                boolean yes = told < 6;
                int f = told % 6;
                String target = (meant < 6 ? "+" : "-") + meant % 6;
                String what = "16: " + target + " where " + f + " is " + (yes ? "yes" : "no");
                boolean is = told == meant;
                check.isTrue(what, made(yes, f, target + ">p").equals(is ? "opo" : "oao"));
                check.isTrue(what + ", left", made(yes, f, "o>n/" + target + "_").equals(is ? "oan" : "oao"));
                check.isTrue(what + ", right", made(yes, f, "o>n/_" + target).equals(is ? "nao" : "oao"));
            }
        }
    }

    private static void everyLetter(Check check) {
        for (char s = 'a'; s <= 'p'; s++) {
            char other = s == 'a' ? 'p' : 'a';
            String row = "" + s + other + s;
            made(check, s + ">0", row, "" + other);
            made(check, other + ">" + s, row, "" + s + s + s);
            made(check, other + ">0/" + s + "_", row, "" + s + s);
            made(check, other + ">0/_" + s, row, "" + s + s);
            made(check, s + ">0/_" + other, row, "" + other + s);
        }
    }

    private static void derived(Check check) {
        DialectForms x = Check.withPlaces(2);
        Check.law(x, 1, "a>b");
        Check.law(x, 2, "a>d");
        Check.law(x, 3, "b>c");
        Check.law(x, 1, "c>0/_#");
        Check.root(x, 0, "aba");
        String[] due = {"aba", "bbb", "ccc", "cc", "cc", "cc", "cc", "cc", "cc"};
        for (int n = 0; n <= 8; n++) {
            check.isTrue("16: by the first " + n, Check.derived(x, 0, 0, n).equals(due[n]));
        }
        check.isTrue("16: elsewhere by its first", Check.derived(x, 1, 0, 1).equals("dbd"));
        check.isTrue("16: elsewhere by all", Check.derived(x, 1, 0, 2).equals("dcd"));
        check.due("16: NONE", x.derived(0, 0, 8, 2), -9);
        check.due("16: k 7", x.derived(0, 0, 8, 7), -9);
        check.due("16: k 8", x.derived(0, 0, 8, 8), -1);
        check.due("16: k -2", x.derived(0, 0, 9, -2), -1);
        check.due("16: no PLACE", x.derived(2, 0, 9, 0), -1);
        check.due("16: no MEANING", x.derived(0, 6, 9, 0), -1);
        check.due("16: n 9 ahead of STATE", x.derived(0, 1, 9, 0), -2);
        check.due("16: n -1", x.derived(0, 0, -1, 0), -2);
        check.due("16: no ROOT", x.derived(0, 1, 0, -1), -3);
        check.due("16: the ROOT stays", x.ofRoot(0, -1), 3);
        Check.law(x, 1, "+2>e");
        check.isTrue("16: FEATURES as they are", Check.derived(x, 0, 0, 8).equals("cc"));
        x.sound(2, 4, 0);
        check.isTrue("16: FEATURES as they become", Check.derived(x, 0, 0, 8).equals("ee"));
    }

    private static void latest(Check check) {
        DialectForms x = Check.withPlaces(3);
        Check.law(x, 1, "a>b");
        Check.law(x, 3, "b>c");
        Check.law(x, 7, "c>c");
        Check.law(x, 1, "a>p");
        Check.root(x, 0, "ad");
        Check.root(x, 1, "cb");
        Check.root(x, 2, "d");
        check.due("17: by what the first has made", x.latest(0, 0), 1);
        check.due("17: elsewhere none", x.latest(1, 0), -9);
        check.due("17: another MEANING", x.latest(1, 1), 1);
        check.due("17: what stays itself is no change", x.latest(2, 1), -9);
        check.due("17: none", x.latest(0, 2), -9);
        Check.law(x, 1, "d>0/#_#");
        check.due("17: it goes", x.latest(0, 2), 4);
        check.due("17: no PLACE", x.latest(3, 0), -1);
        check.due("17: no MEANING", x.latest(0, 6), -1);
        check.due("17: UNKNOWN ahead of STATE", x.latest(-1, 5), -1);
        check.due("17: no ROOT", x.latest(0, 5), -3);
    }
}
