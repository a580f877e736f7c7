import java.lang.reflect.InvocationTargetException;
import java.lang.reflect.Method;
import java.util.ArrayList;
import java.util.Comparator;
import java.util.List;

/** Finds the tests that name a sentence, and runs them, so that none can be left out of a list by hand. */
final class Sentences {
    private Sentences() {
    }

    static List<Method> testsOf(Class<?> tests) {
        List<Method> found = new ArrayList<>();
        for (Method m : tests.getDeclaredMethods()) {
            if (m.isAnnotationPresent(Sentence.class)) {
                found.add(m);
            }
        }
        found.sort(Comparator.comparingInt((Method m) -> m.getAnnotation(Sentence.class).promise())
                .thenComparing(Method::getName));
        return found;
    }

    /** Runs all of them, and ends the program with 1 if an answer of one was not as due. */
    static void run(Class<?> tests) {
        int failed = 0;
        List<Method> found = testsOf(tests);
        for (Method test : found) {
            Due due = new Due(nameOf(test) + ": ");
            runOne(test, due);
            failed += due.isFine() ? 0 : 1;
        }
        System.out.println(found.size() + " tests of sentences, " + failed + " failed");
        if (failed != 0 || found.isEmpty()) {
            System.exit(1);
        }
    }

    private static void runOne(Method test, Due due) {
        try {
            test.invoke(null, due);
        } catch (InvocationTargetException e) {
            due.holds("no call throws, but one threw " + e.getCause(), false);
        } catch (IllegalAccessException e) {
            throw new IllegalStateException(e);
        }
    }

    static String nameOf(Method test) {
        Sentence s = test.getAnnotation(Sentence.class);
        return test.getName() + " (promise " + s.promise() + ", \"" + s.says() + "\")";
    }
}
