import java.lang.reflect.InvocationTargetException;
import java.lang.reflect.Method;
import java.lang.reflect.Modifier;
import java.util.ArrayList;
import java.util.Comparator;
import java.util.List;

/**
 * Runs the cases of a test: its static methods that take a Due alone. A case is named "p", the two digits of its promise,
 * "_", and what it looks at, so that what fails tells the sentence that is broken. With an argument, the cases alone are
 * run whose names begin with it.
 */
final class Cases {
    private Cases() {
    }

    static void run(Class<?> test, int firstPromise, int lastPromise, String[] args) {
        String beginning = args.length == 0 ? "" : args[0];
        Due due = new Due(test.getSimpleName());
        int[] casesOf = new int[100];
        for (Method each : casesIn(test, beginning)) {
            runOne(due, each);
            casesOf[promiseOf(each)]++;
        }
        if (beginning.isEmpty()) {
            noPromiseIsLeftOut(due, casesOf, firstPromise, lastPromise);
        }
        due.end();
    }

    private static void noPromiseIsLeftOut(Due due, int[] casesOf, int firstPromise, int lastPromise) {
        due.begin("all cases");
        for (int promise = 0; promise < casesOf.length; promise++) {
            boolean isDue = promise >= firstPromise && promise <= lastPromise;
            due.is("cases of promise " + promise + " are there", casesOf[promise] > 0 ? 1 : 0, isDue ? 1 : 0);
        }
    }

    private static List<Method> casesIn(Class<?> test, String beginning) {
        List<Method> cases = new ArrayList<>();
        for (Method each : test.getDeclaredMethods()) {
            boolean isCase = Modifier.isStatic(each.getModifiers()) && each.getName().matches("p\\d\\d_\\w+");
            if (isCase && each.getName().startsWith(beginning)) {
                cases.add(each);
            }
        }
        cases.sort(Comparator.comparing(Method::getName));
        return cases;
    }

    private static int promiseOf(Method each) {
        return Integer.parseInt(each.getName().substring(1, 3));
    }

    private static void runOne(Due due, Method each) {
        due.begin(each.getName());
        int before = due.compared();
        try {
            each.setAccessible(true);
            each.invoke(null, due);
        } catch (InvocationTargetException thrown) {
            due.fail("a call that throws, " + thrown.getCause() + ",");
        } catch (IllegalAccessException | IllegalArgumentException wrong) {
            due.fail("a case that can't be run, " + wrong + ",");
        }
        if (due.compared() == before) {
            due.fail("a case that compares nothing");
        }
    }
}
