import java.lang.reflect.InvocationTargetException;
import java.lang.reflect.Method;
import java.util.HashMap;
import java.util.Map;
import java.util.NoSuchElementException;

/** Calls told as texts, such as "home(0, 9999, -9999, 1)", so that a test's table shows just what was asked. */
final class Ask {
    /** What a call that throws NoSuchElementException counts as. */
    static final long THROWS = Long.MIN_VALUE;
    /** What a call that throws anything else counts as: no test has it due. */
    static final long FAILS = Long.MIN_VALUE + 1;

    private static final Map<String, Method> FACE = new HashMap<>();

    static {
        for (Method m : DotScreens.class.getMethods()) {
            if (m.getDeclaringClass() == DotScreens.class) {
                FACE.put(m.getName(), m);
            }
        }
    }

    private Ask() {
    }

    /** The answer as a number; a boolean counts 1 or 0. */
    static long of(DotScreens x, String call) {
        int open = call.indexOf('(');
        Method method = FACE.get(call.substring(0, open));
        String[] told = call.substring(open + 1, call.length() - 1).split(", ");
        Object[] values = new Object[method.getParameterCount()];
        for (int i = 0; i < values.length; i++) {
            boolean isTruth = method.getParameterTypes()[i] == boolean.class;
            values[i] = isTruth ? (Object) Boolean.parseBoolean(told[i]) : (Object) Integer.parseInt(told[i]);
        }
        try {
            Object answer = method.invoke(x, values);
            return answer instanceof Boolean ? (Boolean) answer ? 1 : 0 : ((Number) answer).longValue();
        } catch (InvocationTargetException e) {
            return e.getCause().getClass() == NoSuchElementException.class ? THROWS : FAILS;
        } catch (IllegalAccessException e) {
            throw new AssertionError(e);
        }
    }
}
