import java.lang.reflect.Constructor;
import java.lang.reflect.Field;
import java.lang.reflect.Method;
import java.lang.reflect.Modifier;
import java.util.Arrays;
import java.util.Set;
import java.util.TreeSet;

/** The public face, and promise 1: a new object. */
public final class FaceTest {
    private static final String[] FACE = {
        "int sound(int,int,int)", "int feature(int,int)", "int differ(int,int)", "int entry(int,int,int,int,int,int)",
        "int place()", "int near(int,int,boolean)", "int form(int,int,int,int,int,int,int)",
        "int read(int,int,int,int,int,int,int)", "int ofForm(int,int)", "int said(int,int)",
        "int root(int,int,int,int,int)", "int ofRoot(int,int)", "int law(int,int,int,int,int)", "int force(int,int)",
        "int derived(int,int,int,int)", "int latest(int,int)", "int gap(int)", "int cost(int,int)",
        "int align(int,int,int)", "int sought(int,int,int)", "int regular(int)", "int ways(int,int)",
        "int order(int,int)", "int limit(int)", "int group(int,int)", "int border(int,int)", "int bundle(int,int)",
        "int area(int,int)", "int sheet(int,int,int)", "int lose(int)", "int put(int,int,int)",
        "long cell(int,int,int)", "int tell(int)", "int name(int)", "int as(int,int)", "int trace()", "int fault()",
        "int many(int)"};

    public static void main(String[] args) {
        Check check = new Check();
        face(check);
        constants(check);
        newObject(check);
        objectsAreApart(check);
        check.end();
    }

    private static String told(Method m) {
        String types = String.join(",", Arrays.stream(m.getParameterTypes()).map(Class::getName).toList());
        return m.getReturnType().getName() + " " + m.getName() + "(" + types + ")";
    }

    private static void face(Check check) {
        Set<String> shown = new TreeSet<>();
        Set<String> publicNames = new TreeSet<>();
        Set<String> privateNames = new TreeSet<>();
        for (Method m : DialectForms.class.getDeclaredMethods()) {
            boolean isPrivate = Modifier.isPrivate(m.getModifiers());
            (isPrivate ? privateNames : publicNames).add(m.getName());
            if (!isPrivate) {
                shown.add(told(m));
                check.isTrue(m + " is public and of the object", m.getModifiers() == Modifier.PUBLIC);
            }
        }
        check.isTrue("the methods are " + shown, shown.equals(new TreeSet<>(Arrays.asList(FACE))));
        privateNames.retainAll(publicNames);
        check.isTrue("no private method bears a public one's name: " + privateNames, privateNames.isEmpty());
        Constructor<?>[] constructors = DialectForms.class.getDeclaredConstructors();
        check.due("constructors", constructors.length, 1);
        check.isTrue("the constructor is public, without parameters",
            Modifier.isPublic(constructors[0].getModifiers()) && constructors[0].getParameterCount() == 0);
        int modifiers = DialectForms.class.getModifiers();
        check.isTrue("the class is public and final", Modifier.isPublic(modifiers) && Modifier.isFinal(modifiers));
        for (Class<?> inside : DialectForms.class.getDeclaredClasses()) {
            boolean shownOut = Modifier.isPublic(inside.getModifiers()) || Modifier.isProtected(inside.getModifiers());
            check.isTrue(inside + " is static and not public", Modifier.isStatic(inside.getModifiers()) && !shownOut);
        }
    }

    private static void constants(Check check) {
        check.due("UNKNOWN", DialectForms.UNKNOWN, -1);
        check.due("OUTSIDE", DialectForms.OUTSIDE, -2);
        check.due("STATE", DialectForms.STATE, -3);
        check.due("FULL", DialectForms.FULL, -4);
        check.due("NONE", DialectForms.NONE, -9);
        check.due("LOST", DialectForms.LOST, Long.MIN_VALUE);
        Set<String> shown = new TreeSet<>();
        for (Field f : DialectForms.class.getDeclaredFields()) {
            if (!Modifier.isPrivate(f.getModifiers())) {
                shown.add(f.getType() + " " + f.getName());
                check.due(f + ": modifiers", f.getModifiers(), Modifier.PUBLIC | Modifier.STATIC | Modifier.FINAL);
            }
        }
        check.isTrue("the constants are " + shown, shown.equals(Set.of("int UNKNOWN", "int OUTSIDE", "int STATE",
            "int FULL", "int NONE", "long LOST")));
    }

    private static void newObject(Check check) {
        DialectForms x = new DialectForms();
        for (int what = 0; what <= 3; what++) {
            check.due("1: many(" + what + ")", x.many(what), 0);
        }
        for (int s = 0; s < 16; s++) {
            for (int f = 0; f < 6; f++) {
                check.due("1: feature(" + s + ", " + f + ")", x.feature(s, f), -9);
            }
            check.due("1: differ(" + s + ", 15)", x.differ(s, 15), 0);
        }
        for (int k = 0; k < 4; k++) {
            check.due("1: put(" + k + ", 0, 1)", x.put(k, 0, 1), -11);
        }
        check.due("1: fault() behind put", x.fault(), 1);
        check.due("1: fault() of a new object", new DialectForms().fault(), 0);
        check.due("1: trace()", x.trace(), 0);
        check.due("1: said(0, 0)", x.said(0, 0), -1);
        check.due("1: ofForm(0, 0)", x.ofForm(0, 0), -1);
        check.due("1: force(0, 0)", x.force(0, 0), -1);
        for (int m = 0; m < 6; m++) {
            check.due("1: ofRoot(" + m + ", -1)", x.ofRoot(m, -1), -9);
            check.due("1: group(" + m + ", -1)", x.group(m, -1), 0);
            check.due("1: border(" + m + ", -1)", x.border(m, -1), 0);
        }
        check.due("1: gap(1)", x.gap(1), 6);
        check.due("1: limit(1)", x.limit(1), 3);
        check.due("1: place()", x.place(), 0);
        for (int c = 0; c < 3; c++) {
            check.due("1: a COLLECTOR without ENTRIES", Check.read(x, c, 0, 0, "a"), -100);
        }
    }

    private static void objectsAreApart(Check check) {
        DialectForms x = Check.withPlaces(2);
        Check.form(x, 0, 0, 0, "ab");
        Check.law(x, 3, "a>b");
        x.sound(0, 1, 0);
        DialectForms y = new DialectForms();
        check.due("1: places of another object", y.many(0), 0);
        check.due("1: forms of another object", y.many(1), 0);
        check.due("1: laws of another object", y.many(2), 0);
        check.due("1: features of another object", y.feature(0, 0), -9);
        check.due("1: sheets of another object", y.lose(3), 0);
    }
}
