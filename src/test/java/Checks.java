import java.lang.reflect.Method;
import java.lang.reflect.Modifier;
import java.util.Arrays;
import java.util.Comparator;

/** Collects answers that are not as due; a test ends with exit code 1 if there was one. */
final class Checks {
    private final String title;
    private String where = "";
    private int made = 0;
    private int wrong = 0;

    Checks(String title) {
        this.title = title;
    }

    void at(String newWhere) {
        where = newWhere;
    }

    void due(String call, long got, long want) {
        made++;
        if (got != want) {
            wrong++;
            System.out.println(where + ": " + call + " answered " + got + ", due is " + want);
        }
    }

    void due(String call, boolean got, boolean want) {
        due(call, got ? 1 : 0, want ? 1 : 0);
    }

    /** Every static method without parameters and without an answer is a test of its own, and must check something. */
    void runEachTestOf(Class<?> type) throws ReflectiveOperationException {
        Method[] methods = type.getDeclaredMethods();
        Arrays.sort(methods, Comparator.comparing(Method::getName));
        for (Method method : methods) {
            boolean isTest = Modifier.isStatic(method.getModifiers()) && !method.isSynthetic()
                && method.getParameterCount() == 0 && method.getReturnType() == void.class;
            if (isTest) {
                at(method.getName());
                int before = made;
                method.setAccessible(true);
                method.invoke(null);
                at(method.getName());
                due("the test checks something", made > before, true);
            }
        }
    }

    boolean hasWrong() {
        return wrong > 0;
    }

    void finish() {
        System.out.println(title + ": " + made + " checks, " + wrong + " wrong");
        if (wrong > 0 || made == 0) {
            System.exit(1);
        }
    }
}
