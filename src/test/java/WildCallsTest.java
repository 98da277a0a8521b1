import java.lang.reflect.InvocationTargetException;
import java.lang.reflect.Method;
import java.util.Arrays;
import java.util.Comparator;
import java.util.Random;

/**
 * Drawn calls with wild arguments in drawn states: nothing reaches the caller but the very exceptions that the face names, and
 * those thrown by a written throw (their text shows it). The draws are always the same.
 */
public final class WildCallsTest {
    private static final int RUNS = 150;
    private static final int CALLS = 500;
    private static final long[] WILD = {Long.MIN_VALUE, Integer.MIN_VALUE, Integer.MIN_VALUE + 1, -2000, -65, -33, -17, -10, 10, 13, 17, 24, 25, 32, 33, 64,
        100, 200, 201, 255, 256, 288, 289, 399, 400, 401, 999, 1000, 1023, 1024, 9999, 10000, 99999, 100000, Integer.MAX_VALUE - 1, Integer.MAX_VALUE,
        Long.MAX_VALUE};
    private static final String[] TEXTS = {"nose 1;", "nose 2;side 1;", "corner 3;", "nose 12;", "pull 1;thin 1;turn 99;slow 0;", "roof 10;",
        "drag 99 99 99 99 99 99 99 99 99;", "lift 99 99 99 99 99 99 99 99 99;", "nose 1;nose 1;nose 1;nose 1;nose 1;nose 1;nose 1;nose 1;"};

    private static final Check check = new Check();

    public static void main(String[] args) throws IllegalAccessException {
        Method[] calls = Arrays.stream(DartHangar.class.getMethods()).filter(m -> m.getDeclaringClass() == DartHangar.class)
            .sorted(Comparator.comparing(Method::getName)).toArray(Method[]::new);
        check.due(38, calls.length, "calls of the face");
        for (int run = 0; run < RUNS; run++) {
            Random random = new Random(90_000 + run);
            DartHangar h = new DartHangar();
            for (int i = 0; i < CALLS; i++) {
                String wrong = call(h, calls[random.nextInt(calls.length)], random);
                check.due(true, wrong == null, "run " + run + ", call " + i + ": " + wrong + "; is it fine");
            }
        }
        check.end();
    }

    private static String call(DartHangar h, Method m, Random random) throws IllegalAccessException {
        if (m.getName().equals("way") || m.getName().equals("law")) {
            Check.feed(h, TEXTS[random.nextInt(TEXTS.length)]);
        }
        Object[] arguments = new Object[m.getParameterCount()];
        for (int i = 0; i < arguments.length; i++) {
            arguments[i] = draw(m.getParameterTypes()[i], random);
        }
        try {
            m.invoke(h, arguments);
            return null;
        } catch (InvocationTargetException e) {
            Throwable thrown = e.getCause();
            boolean told = Arrays.asList(m.getExceptionTypes()).contains(thrown.getClass());
            boolean written = thrown.getMessage() != null && thrown.getStackTrace()[0].getClassName().startsWith("DartHangar");
            return told && written ? null : m.getName() + Arrays.toString(arguments) + " threw " + thrown;
        }
    }

    private static Object draw(Class<?> type, Random random) {
        if (type == boolean.class) {
            return random.nextBoolean();
        }
        long number = random.nextInt(3) > 0 ? random.nextInt(6) - (random.nextInt(6) == 0 ? 1 : 0) : WILD[random.nextInt(WILD.length)];
        if (random.nextInt(5) == 0) {
            number = random.nextInt(8) == 0 ? random.nextLong() : 10 + random.nextInt(500);
        }
        return type == long.class ? (Object) number : (Object) (int) number;
    }
}
