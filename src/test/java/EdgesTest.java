import java.lang.reflect.InvocationTargetException;
import java.lang.reflect.Method;
import java.util.Arrays;
import java.util.Comparator;
import java.util.Random;

/** All promises: no call throws for any arguments in any state, and what is refused changes nothing, now or later. */
public final class EdgesTest {
    private static final Check check = new Check();
    private static final int[] ODD = {0, 1, 2, 3, 5, 7, 8, 9, 10, 11, 40, 59, 60, 61, 63, 64, 98, 99, 100, 119, 120, 255, 256,
        841, -1, -2, -3, -128, 32767, 65536, 1 << 30, Integer.MAX_VALUE, Integer.MAX_VALUE - 1, Integer.MIN_VALUE, Integer.MIN_VALUE + 1};

    public static void main(String[] args) {
        Method[] face = Arrays.stream(CardUnsigned.class.getDeclaredMethods())
            .filter(m -> java.lang.reflect.Modifier.isPublic(m.getModifiers()))
            .sorted(Comparator.comparing(Method::getName))
            .toArray(Method[]::new);
        check.due(0, "methods of the face", face.length, 47 - 1);
        for (int seed = 0; seed < 400 && check.wrong() == 0; seed++) {
            run(new Random(seed), face, seed);
        }
        check.end();
    }

    /** The twin gets the same calls but those that were refused, and answers alike. */
    private static void run(Random random, Method[] face, int seed) {
        CardUnsigned x = new CardUnsigned();
        CardUnsigned twin = new CardUnsigned();
        begin(x, new Random(seed));
        begin(twin, new Random(seed));
        for (int i = 0; i < 300 && check.wrong() == 0; i++) {
            Method method = face[random.nextInt(face.length)];
            Object[] arguments = arguments(method, random);
            String called = "seed " + seed + ": " + method.getName() + Arrays.toString(arguments);
            long before = Given.state(x);
            long answer = made(x, method, arguments, called);
            if (refused(method, answer)) {
                check.due(0, "the state behind " + called, Given.state(x), before);
            } else {
                check.due(0, called + " of the twin", made(twin, method, arguments, called), answer);
            }
        }
    }

    private static long made(CardUnsigned x, Method method, Object[] arguments, String called) {
        try {
            return ((Number) method.invoke(x, arguments)).longValue();
        } catch (InvocationTargetException | IllegalAccessException e) {
            check.holds(0, called + " does not throw: " + e.getCause(), false);
            return 0;
        }
    }

    private static void begin(CardUnsigned x, Random random) {
        for (int i = random.nextInt(9); i > 0; i--) {
            x.person(random.nextInt(4));
        }
        for (int i = 0; i < x.count(0); i++) {
            x.mend(i, 4, random.nextInt(256));
            x.mend(i, 5, random.nextInt(256));
        }
        for (int i = random.nextInt(7); i > 0; i--) {
            x.card(100 * random.nextInt(8) + random.nextInt(100), 100 * random.nextInt(9) + 10 * random.nextInt(5) + random.nextInt(2));
        }
        for (int i = random.nextInt(6); i > 0; i--) {
            x.body(random.nextInt(8));
        }
        if (random.nextBoolean()) {
            Given.law(x, "s-9999*9999/(h-1)%(k-c);l?-!-!-9");
        }
    }

    private static Object[] arguments(Method method, Random random) {
        Class<?>[] types = method.getParameterTypes();
        Object[] arguments = new Object[types.length];
        for (int i = 0; i < types.length; i++) {
            int v = random.nextBoolean() ? random.nextInt(6) : ODD[random.nextInt(ODD.length)];
            arguments[i] = types[i] == long.class ? (Object) (long) v : (Object) v;
        }
        return arguments;
    }

    /** Behind law() the tape is empty whatever it answers, and act() clears the trace. */
    private static boolean refused(Method method, long answer) {
        if (method.getName().equals("law") || method.getName().equals("act") || method.getName().equals("mend") && answer >= -1) {
            return false;
        }
        boolean element = method.getName().equals("element");
        return !element && answer >= -14 && answer < 0 || answer == CardUnsigned.VOID || answer == Long.MIN_VALUE;
    }
}
