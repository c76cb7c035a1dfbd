import java.lang.reflect.InvocationTargetException;
import java.lang.reflect.Method;
import java.util.Arrays;
import java.util.Comparator;
import java.util.TreeSet;

/**
 * Runs the tests of a class, one a boundary that the document names: each of its methods promiseNN.. is a test, and NN
 * is the promise that it belongs to.
 */
final class Suite {
    private static final Check CHECK = new Check();

    private Suite() {
    }

    /** Runs all tests of a class; each of the promises has to have one at least. */
    static void run(Class<?> tests, int... promises) {
        Method[] methods = Arrays.stream(tests.getDeclaredMethods())
            .filter(method -> method.getName().matches("promise\\d\\d.+"))
            .sorted(Comparator.comparing(Method::getName)).toArray(Method[]::new);
        TreeSet<Integer> seen = new TreeSet<>();
        for (Method method : methods) {
            seen.add(Integer.parseInt(method.getName().substring(7, 9)));
            CHECK.about(tests.getName() + "." + method.getName());
            call(method);
        }
        CHECK.about(tests.getName());
        for (int promise : promises) {
            CHECK.due("promise " + promise + " has a test", seen.contains(promise), true);
        }
        CHECK.end();
    }

    private static void call(Method method) {
        try {
            method.setAccessible(true);
            method.invoke(null);
        } catch (InvocationTargetException thrown) {
            CHECK.due("throws " + thrown.getCause(), true, false);
        } catch (IllegalAccessException closed) {
            throw new IllegalStateException(closed);
        }
    }

    static void due(String call, long got, long want) {
        CHECK.due(call, got, want);
    }

    static void due(String call, boolean got, boolean want) {
        CHECK.due(call, got, want);
    }

    /** The text's fault and its place, told to a new object; 0 and NONE if it has none. */
    static void fault(String text, int number, int place) {
        PondReader x = new PondReader();
        int lines = Tape.tell(x, text);
        due("text '" + text + "' has a fault", lines == PondReader.NONE, number != 0);
        due("fault(0) of '" + text + "'", x.fault(0), number);
        due("fault(1) of '" + text + "'", x.fault(1), place);
    }

    static void right(String text) {
        fault(text, 0, PondReader.NONE);
    }
}
