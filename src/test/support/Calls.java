import java.lang.reflect.InvocationTargetException;
import java.lang.reflect.Method;
import java.lang.reflect.Modifier;
import java.util.List;

/** The calls of the face by their names, for the program and for the oracle. */
final class Calls {
    static final List<String> NAMES = List.of(
        "word", "reading", "guess", "readings", "sure", "seen", "rule", "equate", "append", "change", "remove",
        "length", "wordAt", "left", "referent", "edges", "edge", "edgeCost", "cost", "costAnew", "faults", "fault",
        "fragments", "fragment", "mend", "best", "mendAll", "reads", "pattern", "off", "styleFaults", "styleFault");
    private static final int[] ARGUMENTS = {1, 6, 5, 1, 3, 4, 4, 5, 2, 3, 2, 1, 2, 2, 2, 3, 4, 4, 1, 1, 1, 2, 1, 2, 2, 1,
        1, 0, 4, 2, 1, 2};
    private static final Method[] OF_THE_PROGRAM = methodsOf(ReadingChart.class);
    private static final Method[] OF_THE_ORACLE = methodsOf(Oracle.class);

    private Calls() {
    }

    static int arguments(int op) {
        return ARGUMENTS[op];
    }

    private static Method[] methodsOf(Class<?> from) {
        Method[] found = new Method[NAMES.size()];
        for (Method m : from.getDeclaredMethods()) {
            int op = NAMES.indexOf(m.getName());
            boolean isOfTheFace = op >= 0 && m.getParameterCount() == ARGUMENTS[op];
            if (isOfTheFace && !Modifier.isPrivate(m.getModifiers()) && !Modifier.isStatic(m.getModifiers())) {
                found[op] = m;
            }
        }
        return found;
    }

    /** The answer, a boolean as 1 or 0; or throws. and the name of what was thrown. */
    static String answer(ReadingChart of, int op, int... a) {
        return outcome(OF_THE_PROGRAM[op], of, a);
    }

    static String answer(Oracle of, int op, int... a) {
        return outcome(OF_THE_ORACLE[op], of, a);
    }

    private static String outcome(Method method, Object of, int[] a) {
        Object[] boxed = new Object[a.length];
        for (int k = 0; k < a.length; k++) {
            boxed[k] = a[k];
        }
        try {
            Object answer = method.invoke(of, boxed);
            return answer instanceof Boolean b ? (b ? "1" : "0") : answer.toString();
        } catch (InvocationTargetException e) {
            return "throws." + e.getCause().getClass().getName().replace("java.lang.", "");
        } catch (IllegalAccessException e) {
            throw new AssertionError(e);
        }
    }
}
