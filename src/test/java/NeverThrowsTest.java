import java.lang.reflect.InvocationTargetException;
import java.lang.reflect.Method;
import java.lang.reflect.Modifier;
import java.util.ArrayList;
import java.util.Arrays;
import java.util.Comparator;
import java.util.List;
import java.util.Random;

/** LANGUAGE.md, rule 7: no call throws, for any arguments in any state, also behind the 512th call. */
public final class NeverThrowsTest {
    private static final Checks c = new Checks();
    private static final int[] NUMBERS = {Integer.MIN_VALUE, Integer.MIN_VALUE + 1, -104, -2, -1, 0, 1, 2, 3, 5, 6, 7, 8, 9,
        10, 11, 12, 13, 22, 23, 24, 25, 31, 32, 33, 39, 40, 63, 64, 69, 70, 99, 100, 1 << 24, Integer.MAX_VALUE - 1,
        Integer.MAX_VALUE};
    private static final String[] TEXTS = {"a(b1)", "a", "a(b(c1d2)b(c3))", "b", "*c", ">", "b/0", "a(" + "b1".repeat(23) + ")",
        "a(".repeat(23) + "a" + ")".repeat(23), "*a/*b/*c/*d/*e/9", "a(", "*", "((((", ""};

    private static final List<Method> FACE = face();

    private final Random random;

    private NeverThrowsTest(int seed) {
        random = new Random(seed);
    }

    /** In an order of their own: the machine promises none, and runs shall be the same each time. */
    private static List<Method> face() {
        List<Method> face = new ArrayList<>();
        for (Method m : RowsDrawn.class.getDeclaredMethods()) {
            if (Modifier.isPublic(m.getModifiers())) {
                face.add(m);
            }
        }
        face.sort(Comparator.comparing(Method::getName));
        return face;
    }

    public static void main(String[] args) throws IllegalAccessException {
        for (Method m : FACE) {
            if (m.getParameterCount() <= 3) {
                everyArgument(m);
            }
        }
        for (int seed = 1; seed <= 20; seed++) {
            new NeverThrowsTest(seed).run();
        }
        c.end("NeverThrowsTest");
    }

    /** All rows of the numbers as arguments, on a new object and on one with pages and rules. */
    private static void everyArgument(Method m) throws IllegalAccessException {
        RowsDrawn bare = new RowsDrawn();
        RowsDrawn some = Checks.with(TEXTS[0], TEXTS[2], TEXTS[8]);
        Checks.rule(some, 1, "b");
        Checks.rule(some, 2, "c");
        some.law(3, 50, 0);
        int[] at = new int[m.getParameterCount()];
        int rows = 1;
        for (int i = 0; i < at.length; i++) {
            rows *= NUMBERS.length;
        }
        for (int row = 0; row < rows; row++) {
            Object[] arguments = new Object[at.length];
            int rest = row;
            for (int i = 0; i < at.length; i++) {
                arguments[i] = argument(m.getParameterTypes()[i], NUMBERS[rest % NUMBERS.length]);
                rest /= NUMBERS.length;
            }
            call(m, bare, arguments);
            call(m, some, arguments);
        }
    }

    private static Object argument(Class<?> type, int number) {
        return type == boolean.class ? (Object) (number % 2 == 0) : type == long.class ? (Object) (long) number : number;
    }

    private static void call(Method m, RowsDrawn x, Object[] arguments) throws IllegalAccessException {
        try {
            m.invoke(x, arguments);
            c.isTrue(m.getName(), true);
        } catch (InvocationTargetException e) {
            c.isTrue(m.getName() + Arrays.toString(arguments) + " threw " + e.getCause(), false);
        }
    }

    private void run() throws IllegalAccessException {
        RowsDrawn x = new RowsDrawn();
        for (int calls = 0; calls < 1500; calls++) {
            if (random.nextInt(8) == 0) {
                x.blank();
                Checks.write(x, TEXTS[random.nextInt(TEXTS.length)]);
                x.page();
                x.rule(random.nextInt(6));
            }
            Method m = FACE.get(random.nextInt(FACE.size()));
            call(m, x, someArguments(m));
        }
    }

    private Object[] someArguments(Method m) {
        Object[] arguments = new Object[m.getParameterCount()];
        for (int i = 0; i < arguments.length; i++) {
            int number = random.nextInt(3) == 0 ? NUMBERS[random.nextInt(NUMBERS.length)] : random.nextInt(4);
            arguments[i] = m.getParameterTypes()[i] == long.class && random.nextBoolean() ? (Object) random.nextLong()
                : argument(m.getParameterTypes()[i], number);
        }
        return arguments;
    }
}
