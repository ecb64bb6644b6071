import java.lang.reflect.InvocationTargetException;
import java.lang.reflect.Method;
import java.util.ArrayList;
import java.util.Comparator;
import java.util.List;

/**
 * Runs the tests of single sentences: the static methods that bear @Says. A name such as p02_aWidthIsAboveW
 * belongs to promise 2, t3_atMost60Slots to paragraph 3 of the terms, o_the512thCall to what is said of an object.
 */
final class Boundaries {
    private Boundaries() {
    }

    static List<Method> testsOf(Class<?> c) {
        List<Method> tests = new ArrayList<>();
        for (Method m : c.getDeclaredMethods()) {
            if (m.isAnnotationPresent(Says.class)) {
                tests.add(m);
            }
        }
        tests.sort(Comparator.comparing(Method::getName));
        return tests;
    }

    static String placeOf(Method test) {
        String mark = test.getName().replaceAll("_.*", "");
        if (mark.equals("o")) {
            return "Object";
        }
        int number = Integer.parseInt(mark.substring(1));
        return (mark.charAt(0) == 'p' ? "Promise " : "Terms ") + number;
    }

    static void run(Class<?> c) throws IllegalAccessException {
        int tests = 0;
        for (Method test : testsOf(c)) {
            tests++;
            String words = test.getAnnotation(Says.class).value();
            DeskChecks.CHECK.on(test.getName() + " (" + placeOf(test) + ", \"" + words + "\")");
            try {
                test.invoke(null);
            } catch (InvocationTargetException e) {
                DeskChecks.CHECK.same("the test", "threw " + e.getCause(), "nothing thrown");
            }
        }
        System.out.print(tests + " tests of sentences: ");
        DeskChecks.CHECK.end();
    }
}
