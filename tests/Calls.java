import java.lang.reflect.InvocationTargetException;
import java.lang.reflect.Method;
import java.util.HashMap;
import java.util.Map;

/** Calls of the face by their names; a boolean is 1 or 0, an exception its name. */
final class Calls {
    private static final Map<String, Method> FACE = new HashMap<>();

    static {
        for (Method method : TideBook.class.getMethods()) {
            if (method.getDeclaringClass() == TideBook.class) {
                FACE.put(method.getName(), method);
            }
        }
    }

    private Calls() {
    }

    static String of(TideBook book, String name, int... numbers) {
        Method method = FACE.get(name);
        Object[] arguments = new Object[numbers.length];
        for (int i = 0; i < numbers.length; i++) {
            boolean yes = method.getParameterTypes()[i] == boolean.class;
            arguments[i] = yes ? (Object) (numbers[i] == 1) : (Object) numbers[i];
        }
        try {
            Object got = method.invoke(book, arguments);
            return got == null ? "0" : got instanceof Boolean yes ? (yes ? "1" : "0") : got.toString();
        } catch (InvocationTargetException e) {
            return e.getCause().getClass().getName();
        } catch (IllegalAccessException e) {
            throw new AssertionError(e);
        }
    }

    static String of(Oracle oracle, String name, int... numbers) {
        try {
            return String.valueOf(oracle.call(name, numbers));
        } catch (RuntimeException e) {
            return e.getClass().getName();
        }
    }
}
