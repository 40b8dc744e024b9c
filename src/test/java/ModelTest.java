import java.lang.reflect.InvocationTargetException;
import java.lang.reflect.Method;
import java.util.Arrays;
import java.util.Random;

/** Runs of 512 calls on fresh objects, each answer against PlainWaves. The seeds are fixed: every run is the same. */
public final class ModelTest {
    private static final int RUNS = 600;
    private static final int FAR_RUNS = 30;
    private static final int CALLS = 512;

    /** A call's name, how often it comes, and for each argument a least and a greatest usual number. */
    private static final Object[][] NEAR = {
        {"row", 5, 0, 9, 0, 7, 0, 4}, {"top", 2, 0, 9}, {"trigger", 5, 0, 3, 0, 9, 0, 9, 0, 30},
        {"begin", 2}, {"close", 1, 0, 11}, {"tick", 10, 1, 12}, {"word", 8, 0, 4, 0, 9}, {"hurt", 8, 0, 4, 0, 12},
        {"ask", 6, 0, 4, 0, 9}, {"tell", 6, 0, 4}, {"calm", 6, 0, 4, 0, 5}, {"unit", 6, 0, 7},
        {"go", 12, 0, 39, 0, 4, 0, 6}, {"arrive", 8, 0, 39}, {"needed", 8, 0, 4, 0, 7},
        {"incident", 10, 0, 11, 0, 6}, {"unitAt", 8, 0, 39, 0, 2}, {"acted", 5, 0, 19}, {"count", 5, 0, 3},
    };
    /** Whole ranges: long silences and spans, many hurt, and time that comes to its end. */
    private static final Object[][] FAR = {
        {"row", 3, 0, 9, 0, 7, 0, 30}, {"top", 1, 5, 9}, {"trigger", 4, 0, 3, 0, 9, 0, 9, 0, 100000},
        {"trigger", 3, 2, 2, 1, 12000, 0, 9, 0, 30000}, {"trigger", 1, 1, 1, 1, 1000, 0, 9, 0, 5000},
        {"begin", 3}, {"close", 1, 0, 40}, {"tick", 20, 1, 5000}, {"tick", 50, 4900, 5000}, {"word", 6, 0, 3, 0, 9},
        {"hurt", 6, 0, 3, 0, 1100}, {"ask", 6, 0, 3, 0, 9}, {"tell", 12, 0, 11}, {"calm", 6, 0, 3, 0, 7},
        {"unit", 4, 0, 2}, {"go", 6, 0, 39, 0, 3, 0, 99999}, {"arrive", 3, 0, 39}, {"needed", 3, 0, 3, 0, 2},
        {"incident", 6, 0, 11, 0, 6}, {"unitAt", 3, 0, 39, 0, 2}, {"acted", 5, 0, 19}, {"count", 5, 0, 3},
    };
    private static final int[] EDGES = {
        -1, 0, 1, 3, 4, 7, 8, 9, 10, 12, 20, 30, 31, 40, 99, 100, 1000, 1001, 5000, 5001, 10000, 10001, 99999,
        100000, 100001, 999999, Integer.MAX_VALUE, Integer.MIN_VALUE,
    };

    public static void main(String[] args) throws ReflectiveOperationException {
        Check check = new Check();
        for (int run = 1; run <= RUNS; run++) {
            runOnce(check, run, NEAR);
        }
        for (int run = 1; run <= FAR_RUNS; run++) {
            runOnce(check, -run, FAR);
        }
        check.end();
    }

    private static void runOnce(Check check, int run, Object[][] calls) throws ReflectiveOperationException {
        Random random = new Random(run);
        SecondWaves x = new SecondWaves();
        PlainWaves plain = new PlainWaves();
        for (int i = 0; i < CALLS; i++) {
            Object[] call = chosen(calls, random);
            Object[] numbers = numbers(call, random);
            String got = answer(x, (String) call[0], numbers);
            String due = answer(plain, (String) call[0], numbers);
            if (!got.equals(due)) {
                check.same("run " + run + ", call " + i + ": " + call[0] + Arrays.toString(numbers), got, due);
                return;
            }
        }
    }

    private static Object[] chosen(Object[][] calls, Random random) {
        int all = Arrays.stream(calls).mapToInt(c -> (int) c[1]).sum();
        int place = random.nextInt(all);
        for (Object[] call : calls) {
            place -= (int) call[1];
            if (place < 0) {
                return call;
            }
        }
        return calls[0];
    }

    private static Object[] numbers(Object[] call, Random random) {
        Object[] numbers = new Object[(call.length - 2) / 2];
        for (int i = 0; i < numbers.length; i++) {
            int least = (int) call[2 + 2 * i];
            int greatest = (int) call[3 + 2 * i];
            numbers[i] = random.nextInt(40) == 0
                    ? EDGES[random.nextInt(EDGES.length)] : least + random.nextInt(greatest - least + 1);
        }
        return numbers;
    }

    private static String answer(Object on, String name, Object[] numbers) throws ReflectiveOperationException {
        Class<?>[] types = new Class<?>[numbers.length];
        Arrays.fill(types, int.class);
        Method method = on.getClass().getMethod(name, types);
        try {
            return String.valueOf(method.invoke(on, numbers));
        } catch (InvocationTargetException e) {
            return "throws." + e.getCause().getClass().getSimpleName();
        }
    }
}
