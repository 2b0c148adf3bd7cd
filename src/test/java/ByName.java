import java.lang.reflect.InvocationTargetException;
import java.lang.reflect.Method;
import java.lang.reflect.Modifier;

/** Calls of the document's face by their names, on TabulaWorks and on PlainModel alike. */
final class ByName {
    private ByName() {
    }

    /** What the call answers, or the class of the exception that it throws; 1 stands for true, any other number for false. */
    static Object call(Object on, String name, int[] told) {
        Method method = method(on.getClass(), name);
        Class<?>[] types = method.getParameterTypes();
        Object[] arguments = new Object[types.length];
        for (int k = 0; k < types.length; k++) {
            arguments[k] = types[k] == boolean.class ? (Object) (told[k] == 1) : (Object) told[k];
        }
        try {
            return method.invoke(on, arguments);
        } catch (InvocationTargetException e) {
            return e.getCause().getClass();
        } catch (IllegalAccessException e) {
            throw new IllegalStateException("out of reach: " + name);
        }
    }

    private static Method method(Class<?> of, String name) {
        for (Method method : of.getDeclaredMethods()) {
            if (method.getName().equals(name) && !Modifier.isPrivate(method.getModifiers())) {
                return method;
            }
        }
        throw new IllegalArgumentException("no such call: " + name);
    }
}
