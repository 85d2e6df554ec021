import java.lang.reflect.InvocationTargetException;
import java.lang.reflect.Method;
import java.util.Arrays;
import java.util.Comparator;
import java.util.Set;
import java.util.TreeSet;

/** Runs the cases of a test: its methods that are named promiseNN_method_case, in the order of their names. */
final class Cases {
    private static final String START = "promise";

    private Cases() {
    }

    static void run(Class<?> tests, Check check, int firstPromise, int lastPromise) {
        Method[] methods = tests.getDeclaredMethods();
        Arrays.sort(methods, Comparator.comparing(Method::getName));
        Set<Integer> tested = new TreeSet<>();
        for (Method method : methods) {
            if (method.getName().startsWith(START)) {
                tested.add(promiseOf(method));
                runOne(method, check);
            }
        }
        check.enter("");
        for (int promise = firstPromise; promise <= lastPromise; promise++) {
            check.that("a case for the promise " + promise, tested.contains(promise));
        }
    }

    static int promiseOf(Method method) {
        return Integer.parseInt(method.getName().substring(START.length(), START.length() + 2));
    }

    private static void runOne(Method method, Check check) {
        Says says = method.getAnnotation(Says.class);
        check.enter(method.getName() + (says == null ? "" : " (\"" + String.join("\", \"", says.value()) + "\")") + ": ");
        check.that("the words of the document", says != null);
        try {
            method.invoke(null);
        } catch (IllegalAccessException e) {
            check.that("the case can be called", false);
        } catch (InvocationTargetException e) {
            check.that("the case ends without " + e.getCause(), false);
        }
    }
}
