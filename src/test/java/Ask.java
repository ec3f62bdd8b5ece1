import java.lang.reflect.InvocationTargetException;
import java.lang.reflect.Method;
import java.lang.reflect.Modifier;
import java.util.HashMap;
import java.util.Map;
import java.util.NoSuchElementException;

/** Calls told as texts, such as "home(0, 9999, -9999, 1)", so that a test's table shows just what was asked. */
final class Ask {
    /** What a call that throws NoSuchElementException counts as. */
    static final long THROWS = Long.MIN_VALUE;
    /** What a call that throws anything else counts as: no test has it due. */
    static final long FAILS = Long.MIN_VALUE + 1;

    private static final Map<String, Method> FACE = callsOf(DotScreens.class);
    private static final Map<String, Method> SECOND = callsOf(Second.class);

    private Ask() {
    }

    private static Map<String, Method> callsOf(Class<?> asked) {
        Map<String, Method> calls = new HashMap<>();
        for (Method m : asked.getDeclaredMethods()) {
            if (!Modifier.isPrivate(m.getModifiers()) && !m.isSynthetic()) {
                calls.put(m.getName(), m);
            }
        }
        return calls;
    }

    /** The answer as a number; a boolean counts 1 or 0. */
    static long of(DotScreens x, String call) {
        return answer(x, FACE, call);
    }

    static long of(Second x, String call) {
        return answer(x, SECOND, call);
    }

    /** Whether the class has a call of this name with as many values. */
    static boolean isCall(String call) {
        Method method = FACE.get(nameOf(call));
        return method != null && method.getParameterCount() == valuesOf(call).length;
    }

    private static String nameOf(String call) {
        return call.substring(0, call.indexOf('('));
    }

    private static String[] valuesOf(String call) {
        String inside = call.substring(call.indexOf('(') + 1, call.lastIndexOf(')'));
        return inside.isEmpty() ? new String[0] : inside.split(", ");
    }

    private static long answer(Object x, Map<String, Method> calls, String call) {
        Method method = calls.get(nameOf(call));
        String[] told = valuesOf(call);
        Object[] values = new Object[method.getParameterCount()];
        for (int i = 0; i < values.length; i++) {
            boolean isTruth = method.getParameterTypes()[i] == boolean.class;
            values[i] = isTruth ? (Object) Boolean.parseBoolean(told[i]) : (Object) Long.decode(told[i]).intValue();
        }
        try {
            Object answer = method.invoke(x, values);
            return answer instanceof Boolean ? (Boolean) answer ? 1 : 0 : ((Number) answer).longValue();
        } catch (InvocationTargetException e) {
            return e.getCause().getClass() == NoSuchElementException.class ? THROWS : FAILS;
        } catch (IllegalAccessException e) {
            throw new AssertionError(e);
        }
    }
}
