import java.lang.reflect.Method;
import java.util.Set;
import java.util.TreeSet;

/** Calls made by their names, for tests that read them from a text. */
final class Calls {
    private Calls() {
    }

    /** Those of the face. */
    static Set<String> names() {
        Set<String> names = new TreeSet<>();
        for (Method method : GrudgeDesk.class.getMethods()) {
            if (method.getDeclaringClass() == GrudgeDesk.class) {
                names.add(method.getName());
            }
        }
        return names;
    }

    static boolean answersLong(String name) throws NoSuchMethodException {
        return named(GrudgeDesk.class, name).getReturnType() == long.class;
    }

    /** A desk, or its model, called with these numbers. */
    static long answer(Object desk, String name, long... numbers) throws ReflectiveOperationException {
        Method method = named(desk.getClass(), name);
        Object[] arguments = new Object[numbers.length];
        for (int k = 0; k < numbers.length; k++) {
            boolean isLong = method.getParameterTypes()[k] == long.class;
            arguments[k] = isLong ? (Object) numbers[k] : (Object) Math.toIntExact(numbers[k]);
        }
        return ((Number) method.invoke(desk, arguments)).longValue();
    }

    private static Method named(Class<?> desk, String name) throws NoSuchMethodException {
        for (Method method : desk.getMethods()) {
            if (method.getName().equals(name) && method.getDeclaringClass() == desk) {
                return method;
            }
        }
        throw new NoSuchMethodException(name);
    }
}
