import java.lang.reflect.InvocationTargetException;
import java.lang.reflect.Method;
import java.lang.reflect.Modifier;
import java.util.Arrays;
import java.util.Comparator;
import java.util.NoSuchElementException;
import java.util.Random;

/** Any calls with any numbers: nothing is thrown but by look(), and two objects answer alike. */
public final class FuzzTest {
    private static final Check CHECK = new Check();
    private static final int[] EDGES = {0, 1, -1, 2, 3, 4, 5, 15, 16, 20, 31, 32, 47, 48, 63, 64, 99, 100, 101, 199, 200,
        255, 256, 800, 801, 9999, 10000, Integer.MAX_VALUE, Integer.MIN_VALUE, Integer.MIN_VALUE + 1};
    private static final String[] TEXTS = {"", "pond 8 6;", "pond 1 1;kind a 1;cork a 0 0;skater a 0 0;law rise/way;",
        "pond 8 6;loss 0;thick 1;kind a 99 -99 1 2 3 4;kind b -1 odds 99;cork a 7 5;cork b 0 0;cork c 3 3;skater a 0 0;"
            + "skater b 7 5;skater c 4 4;shore 0 5;shore 7 0;shore 3 3;reed 1 1;reed 2 2;reed 3 3;land 5 5;drop a 4 4 0;"
            + "drop b 0 0 99;may a shore 0 0;may b;law (rise-here)*9999*9999*9999/(way-step) or not reeds<>1;",
        "pond 5 4;land 1 1;land 2 2;kind a 50 -20;cork a 0 0;skater a 4 3;drop a 2 0 1;reed 3 0;"};

    private FuzzTest() {
    }

    public static void main(String[] args) throws IllegalAccessException {
        Method[] calls = Arrays.stream(PondReader.class.getDeclaredMethods())
            .filter(method -> Modifier.isPublic(method.getModifiers()))
            .sorted(Comparator.comparing(Method::getName)).toArray(Method[]::new);
        for (int seed = 0; seed < 300; seed++) {
            CHECK.about("run " + seed);
            run(new Random(seed), calls);
        }
        CHECK.end();
    }

    private static void run(Random random, Method[] calls) throws IllegalAccessException {
        PondReader one = new PondReader();
        PondReader other = new PondReader();
        for (int i = 0; i < 400; i++) {
            if (i % 100 == 0) {
                String text = TEXTS[random.nextInt(TEXTS.length)];
                one.text(0);
                other.text(0);
                CHECK.due("text", Tape.tell(one, text), Tape.tell(other, text));
            }
            Method call = calls[random.nextInt(calls.length)];
            Object[] numbers = new Object[call.getParameterCount()];
            for (int k = 0; k < numbers.length; k++) {
                int number = random.nextInt(10) < 7 ? random.nextInt(6)
                    : random.nextInt(10) < 8 ? EDGES[random.nextInt(EDGES.length)] : random.nextInt();
                boolean wide = call.getParameterTypes()[k] == long.class;
                numbers[k] = wide ? (Object) (random.nextLong() >>> random.nextInt(64)) : (Object) number;
            }
            if (!call.getName().equals("text") || random.nextInt(20) == 0) {
                String told = call.getName() + Arrays.toString(numbers);
                CHECK.due(told, answer(one, call, numbers), answer(other, call, numbers));
            }
        }
    }

    private static long answer(PondReader reader, Method call, Object[] numbers) throws IllegalAccessException {
        try {
            Object answer = call.invoke(reader, numbers);
            return answer instanceof Boolean so ? so ? 1 : 0 : ((Number) answer).longValue();
        } catch (InvocationTargetException thrown) {
            Throwable cause = thrown.getCause();
            boolean due = call.getName().equals("look") && (cause.getClass() == IndexOutOfBoundsException.class
                || cause.getClass() == NoSuchElementException.class);
            CHECK.due(call.getName() + Arrays.toString(numbers) + " throws " + cause, due, true);
            return Long.MAX_VALUE;
        }
    }
}
