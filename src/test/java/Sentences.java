import java.lang.reflect.InvocationTargetException;
import java.lang.reflect.Method;
import java.lang.reflect.Modifier;
import java.util.Arrays;
import java.util.Comparator;

/**
 * A test class whose every method without parameters is a test of its own, of one sentence of the document. They are
 * found by reflection, so that none can be written and left out, and one that breaks off doesn't hide the others.
 */
abstract class Sentences {
    static final int[] FAR = {Integer.MIN_VALUE, Integer.MIN_VALUE + 1, Integer.MAX_VALUE - 1, Integer.MAX_VALUE};

    final Check check = new Check();

    final void runAll() {
        Method[] methods = getClass().getDeclaredMethods();
        Arrays.sort(methods, Comparator.comparing(Method::getName));
        int tests = 0;
        for (Method method : methods) {
            if (isTest(method)) {
                run(method);
                tests++;
            }
        }
        if (tests == 0) {
            check.tell("no test found in " + getClass().getName());
        }
        check.end();
    }

    private static boolean isTest(Method method) {
        return !method.isSynthetic() && !Modifier.isStatic(method.getModifiers()) && method.getParameterCount() == 0
            && method.getReturnType() == void.class;
    }

    private void run(Method method) {
        int before = check.wrong();
        try {
            method.invoke(this);
        } catch (InvocationTargetException e) {
            check.tell("broken off by " + e.getCause());
        } catch (IllegalAccessException e) {
            check.tell("could not be run: " + e);
        }
        if (check.wrong() != before) {
            System.out.println("  in " + getClass().getName() + "." + method.getName());
        }
    }
}
