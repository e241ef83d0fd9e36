import java.lang.reflect.InvocationTargetException;
import java.lang.reflect.Method;
import java.util.ArrayList;
import java.util.Comparator;
import java.util.List;
import java.util.regex.Matcher;
import java.util.regex.Pattern;

/** Tests that are named after their promise: methods promiseN_..., each of one sentence of the document. */
final class Sentences {
    private static final Pattern NAME = Pattern.compile("promise(\\d+)_\\w+");

    private Sentences() {
    }

    /** Runs each test of a class; one that throws has failed. */
    static void run(Class<?> tests, Check check) throws IllegalAccessException {
        List<Method> all = testsOf(tests);
        for (Method test : all) {
            check.about(test.getName() + " [" + test.getAnnotation(Says.class).value() + "]");
            try {
                test.invoke(null);
            } catch (InvocationTargetException e) {
                check.fail("threw " + e.getCause());
            }
        }
        System.out.println(all.size() + " tests of sentences");
        check.finish();
    }

    static List<Method> testsOf(Class<?> tests) {
        List<Method> all = new ArrayList<>();
        for (Method m : tests.getDeclaredMethods()) {
            if (m.isAnnotationPresent(Says.class)) {
                m.setAccessible(true);
                all.add(m);
            }
        }
        all.sort(Comparator.comparing(Sentences::promiseOf).thenComparing(Method::getName));
        return all;
    }

    /** The number of its promise; 0 if it isn't named after one. */
    static int promiseOf(Method test) {
        Matcher m = NAME.matcher(test.getName());
        return m.matches() ? Integer.parseInt(m.group(1)) : 0;
    }
}
