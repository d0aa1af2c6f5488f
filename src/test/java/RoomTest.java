import java.lang.reflect.Array;
import java.lang.reflect.Field;
import java.lang.reflect.InvocationTargetException;
import java.lang.reflect.Method;
import java.lang.reflect.Modifier;
import java.util.ArrayDeque;
import java.util.Arrays;
import java.util.Collections;
import java.util.Comparator;
import java.util.Deque;
import java.util.IdentityHashMap;
import java.util.Random;
import java.util.Set;

/** The room that an object takes, new and after many calls with any numbers; and that none of these calls throws. */
public final class RoomTest {
    private static final int OBJECTS = 30, CALLS = 5_000;
    private static final int MOST_OBJECTS = 250, MOST_FIELDS = 2_000;

    private final Check check = new Check();
    private final Method[] methods = DialectForms.class.getMethods();
    private int objects = 0;
    private int fields = 0;

    private RoomTest() {
        Arrays.sort(methods, Comparator.comparing(Method::getName));
    }

    public static void main(String[] args) throws ReflectiveOperationException {
        RoomTest test = new RoomTest();
        test.count(new DialectForms());
        test.check.isTrue("objects and arrays of a new object: " + test.objects, test.objects <= MOST_OBJECTS);
        test.check.isTrue("its fields and elements: " + test.fields, test.fields <= MOST_FIELDS);
        int objectsOfNew = test.objects;
        int fieldsOfNew = test.fields;
        for (int seed = 0; seed < OBJECTS; seed++) {
            test.count(test.used(new Random(seed)));
            test.check.due("objects and arrays after many calls", test.objects, objectsOfNew);
            test.check.due("fields and elements after many calls", test.fields, fieldsOfNew);
        }
        test.check.end();
    }

    private void count(DialectForms x) throws ReflectiveOperationException {
        objects = 0;
        fields = 0;
        Set<Object> seen = Collections.newSetFromMap(new IdentityHashMap<>());
        Deque<Object> left = new ArrayDeque<>();
        left.add(x);
        seen.add(x);
        while (!left.isEmpty()) {
            Object one = left.remove();
            objects++;
            for (Object part : parts(one)) {
                if (part != null && seen.add(part)) {
                    left.add(part);
                }
            }
        }
    }

    /** What an object's fields or an array's elements refer to; all of them are counted, numbers, too. */
    private Object[] parts(Object one) throws ReflectiveOperationException {
        if (one.getClass().isArray()) {
            fields += Array.getLength(one);
            return one instanceof Object[] row ? row : new Object[0];
        }
        Field[] all = one.getClass().getDeclaredFields();
        Object[] parts = new Object[all.length];
        for (int k = 0; k < all.length; k++) {
            if (Modifier.isStatic(all[k].getModifiers())) {
                continue;
            }
            fields++;
            if (!all[k].getType().isPrimitive()) {
                all[k].setAccessible(true);
                parts[k] = all[k].get(one);
            }
        }
        return parts;
    }

    private DialectForms used(Random random) throws ReflectiveOperationException {
        DialectForms x = begun(random.nextInt(3));
        for (int call = 0; call < CALLS; call++) {
            if (random.nextInt(20) == 0) {
                tell(x, random);
            }
            Method method = methods[random.nextInt(methods.length)];
            if (method.getDeclaringClass() == DialectForms.class) {
                ask(x, method, random);
            }
        }
        check.isTrue("FORMS and LAWS have been told", x.many(1) > 0 && x.many(2) > 0);
        return x;
    }

    private static DialectForms begun(int which) {
        return which == 0 ? new DialectForms() : which == 1 ? Scene.half() : Scene.full();
    }

    /** What numbers by chance hardly make: rows, TEXTS and ENTRIES that are right. */
    private static void tell(DialectForms x, Random random) {
        String row = "abcabcba".substring(random.nextInt(9));
        switch (random.nextInt(4)) {
            case 0:
                Check.form(x, random.nextInt(3), random.nextInt(8), random.nextInt(6), row);
                break;
            case 1:
                Check.root(x, random.nextInt(6), row);
                break;
            case 2:
                Check.law(x, random.nextInt(1 + (1 << x.many(0))), random.nextBoolean() ? "a>0/_#" : "+0>b/-1_c");
                break;
            default:
                Check.entry(x, random.nextInt(3), 'c', row);
                break;
        }
    }

    private void ask(DialectForms x, Method method, Random random) throws IllegalAccessException {
        Object[] numbers = new Object[method.getParameterCount()];
        for (int k = 0; k < numbers.length; k++) {
            boolean isNumber = method.getParameterTypes()[k] == int.class;
            numbers[k] = isNumber ? (Object) anyNumber(random) : (Object) random.nextBoolean();
        }
        try {
            method.invoke(x, numbers);
        } catch (InvocationTargetException thrown) {
            String what = method.getName() + Arrays.toString(numbers) + " threw " + thrown.getCause();
            check.isTrue(what, false);
        }
    }

    /** Mostly a small number, so that many calls are right; now and then a code, a set, or any number at all. */
    private static int anyNumber(Random random) {
        switch (random.nextInt(12)) {
            case 0:
                return random.nextInt();
            case 1:
                return random.nextInt(256);
            case 2:
                return "ab>+-0/_#".charAt(random.nextInt(9));
            case 3:
                return random.nextInt(70) - 5;
            case 4:
                return random.nextBoolean() ? Integer.MAX_VALUE - random.nextInt(3) : Integer.MIN_VALUE + random.nextInt(3);
            default:
                return random.nextInt(4);
        }
    }
}
