import java.lang.reflect.InvocationTargetException;
import java.lang.reflect.Method;
import java.util.ArrayList;
import java.util.Arrays;
import java.util.Comparator;
import java.util.List;

/** Runs the methods of a test that hold a sentence of the document, each under the name of its promise. */
final class Sentences {
    static final List<Class<?>> TESTS = List.of(VillagesTest.class, AnswersTest.class, ChangesTest.class,
            BordersTest.class, AskingTest.class, SheetsTest.class, FindingsTest.class);

    private Sentences() {
    }

    static List<Method> of(Class<?> test) {
        List<Method> list = new ArrayList<>();
        for (Method m : test.getDeclaredMethods()) {
            if (m.isAnnotationPresent(Says.class)) {
                list.add(m);
            }
        }
        list.sort(Comparator.comparing((Method m) -> m.getAnnotation(Says.class).promise()[0]).thenComparing(Method::getName));
        return list;
    }

    static void run(Class<?> test) throws IllegalAccessException {
        Check check = new Check();
        holdAll(test, check);
        check.end();
    }

    static void holdAll(Class<?> test, Check check) throws IllegalAccessException {
        for (Method m : of(test)) {
            hold(m, check);
        }
    }

    private static void hold(Method m, Check check) throws IllegalAccessException {
        Says says = m.getAnnotation(Says.class);
        check.begin("promise " + Arrays.toString(says.promise()) + " \"" + says.text() + "\", " + m.getName() + ": ");
        int before = check.checked();
        try {
            m.invoke(null, check);
            check.holds("that it checks an answer", check.checked() > before);
        } catch (InvocationTargetException thrown) {
            check.holds(thrown.getCause() + " was thrown; that none is", false);
        }
    }
}
