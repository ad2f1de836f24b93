import java.lang.reflect.InvocationTargetException;
import java.lang.reflect.Method;
import java.lang.reflect.Modifier;
import java.util.Arrays;
import java.util.Comparator;
import java.util.Random;

/** Any arguments in any state: nothing is thrown but what the document says, and what is refused changes nothing. */
public final class ExtremesTest {
    private static final int[] NUMBERS = {Integer.MIN_VALUE, Integer.MIN_VALUE + 1, -1000, -3, -2, -1, 0, 1, 2, 3, 4, 5, 6, 7, 8, 9,
        10, 11, 12, 13, 14, 20, 24, 25, 30, 31, 32, 33, 63, 64, 65, 99, 100, 200, 201, 255, 256, 700, 701, 998, 999, 1000, 9999, 10000,
        1 << 25, 1 << 30, Integer.MAX_VALUE - 1, Integer.MAX_VALUE};
    private static final String[] TEXTS = {"", "man a;",
        "man a;glass g a 99 99 9 9;",
        "man a;man b;glass g a 0 99 1 9;glass h b 99 0 9 1;pay g h 0 99;pay h g 1 1;turn g 0;damp 50;sieve 5;"
            + "law flow above / (minute - 3);law tax 0 - paid;law wind below * below * below * below * below * below * 9999;",
        "man a;glass g a 9 9 9 9;law flow 9999*9999*9999/(0-1);law tax 0-9999*9999*9999/1;law wind not (1/0);damp 100;"};

    private final Random random;
    private final SandHours x = new SandHours();

    private ExtremesTest(long seed) {
        random = new Random(seed);
    }

    private Object argument(Class<?> type) {
        if (type == boolean.class) {
            return random.nextBoolean();
        }
        return NUMBERS[random.nextInt(NUMBERS.length)];
    }

    private void call(Method m) throws Exception {
        Class<?>[] types = m.getParameterTypes();
        Object[] arguments = new Object[types.length];
        for (int k = 0; k < types.length; k++) {
            arguments[k] = argument(types[k]);
        }
        try {
            m.invoke(x, arguments);
        } catch (InvocationTargetException e) {
            Throwable thrown = e.getCause();
            boolean due = m.getName().equals("glass")
                    && (thrown.getClass() == IndexOutOfBoundsException.class || thrown.getClass() == java.util.NoSuchElementException.class);
            Check.due(m.getName() + Arrays.toString(arguments) + " throws " + thrown, due, true);
        }
    }

    public static void main(String[] args) throws Exception {
        Method[] methods = SandHours.class.getDeclaredMethods();
        Arrays.sort(methods, Comparator.comparing(Method::getName).thenComparing(Method::getParameterCount));
        for (int seed = 0; seed < 400; seed++) {
            ExtremesTest test = new ExtremesTest(seed);
            Check.due("text", Check.tell(test.x, TEXTS[seed % TEXTS.length]) >= 0, true);
            for (int k = 0; k < 450; k++) {
                Method m = methods[test.random.nextInt(methods.length)];
                if (Modifier.isPublic(m.getModifiers()) && !(m.getName().equals("text") && test.random.nextInt(4) > 0)) {
                    test.call(m);
                }
            }
            int grains = test.x.count(6);
            Check.due("grains are within what can be", grains >= 0 && grains <= 8 * 2 * 999, true);
        }
        Check.end();
    }
}
