import java.lang.reflect.InvocationTargetException;
import java.lang.reflect.Method;
import java.util.Arrays;
import java.util.Comparator;

/** Runs the cases of a test: its methods named after a promise, or after the document's terms, each on its own. */
final class Cases {
    private Cases() {
    }

    /** To be all that a test's main method does. */
    static void run(Class<?> test) {
        Method[] methods = test.getDeclaredMethods();
        Arrays.sort(methods, Comparator.comparing(Method::getName));
        int ran = 0;
        int failed = 0;
        for (Method method : methods) {
            if (method.getName().matches("(promise\\d\\d|terms)_.*")) {
                ran++;
                failed += holds(method) ? 0 : 1;
            }
        }
        System.out.println(ran + " cases, " + failed + " failed");
        if (ran == 0 || failed > 0) {
            System.exit(1);
        }
    }

    private static boolean holds(Method method) {
        int checked = Check.checked();
        int wrong = Check.wrong();
        Check.about(method.getName());
        try {
            method.invoke(null);
        } catch (InvocationTargetException e) {
            System.out.println(method.getName() + ": threw " + e.getCause());
            return false;
        } catch (IllegalAccessException e) {
            System.out.println(method.getName() + ": is private");
            return false;
        }
        if (Check.checked() == checked) {
            System.out.println(method.getName() + ": looked at nothing");
            return false;
        }
        return Check.wrong() == wrong;
    }
}
