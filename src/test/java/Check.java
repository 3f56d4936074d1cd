import java.lang.reflect.InvocationTargetException;
import java.lang.reflect.Method;
import java.util.ArrayList;
import java.util.Comparator;
import java.util.List;

/** Runs the tests of a class, counts and prints what is not as due, and ends the program with it. */
final class Check {
    private String running = "";
    private int wrong = 0;
    private int asked = 0;

    /** A test is a method without arguments whose name begins with promise; none can be forgotten. */
    void runAll(Class<?> tests) {
        List<Method> found = new ArrayList<>();
        for (Method method : tests.getDeclaredMethods()) {
            if (method.getName().startsWith("promise") && method.getParameterCount() == 0) {
                found.add(method);
            }
        }
        found.sort(Comparator.comparing(Method::getName));
        due("there are tests in " + tests.getName(), !found.isEmpty(), true);
        for (Method method : found) {
            run(method);
        }
        end(tests.getName() + ", " + found.size() + " tests");
    }

    private void run(Method test) {
        running = test.getName() + ": ";
        int before = asked;
        try {
            test.invoke(null);
        } catch (InvocationTargetException | IllegalAccessException e) {
            fault("it threw " + (e.getCause() == null ? e : e.getCause()));
        }
        if (asked == before) {
            fault("it asked nothing");
        }
    }

    private void fault(String text) {
        wrong++;
        System.out.println(running + text);
    }

    void due(String call, long got, long want) {
        asked++;
        if (got != want) {
            fault(call + " answered " + got + ", due is " + want);
        }
    }

    void due(String call, boolean got, boolean want) {
        due(call, got ? 1L : 0L, want ? 1L : 0L);
    }

    void due(String call, String got, String want) {
        asked++;
        if (!got.equals(want)) {
            fault(call + " answered \"" + got + "\", due is \"" + want + "\"");
        }
    }

    int wrong() {
        return wrong;
    }

    void end(String test) {
        System.out.println(test + ": " + asked + " answers, " + wrong + " not as due");
        if (wrong != 0) {
            System.exit(1);
        }
    }
}
