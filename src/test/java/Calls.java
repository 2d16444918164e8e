import java.lang.reflect.InvocationTargetException;
import java.lang.reflect.Method;
import java.util.Arrays;
import java.util.HashMap;
import java.util.Map;

/** Calls of the face by their names, so that a test tells a call once, and can tell which one it was. */
final class Calls {
    private static final Map<String, Method> FOUND = new HashMap<>();

    private Calls() {
    }

    static long call(Object book, String name, int... args) {
        Object[] boxed = new Object[args.length];
        for (int i = 0; i < args.length; i++) boxed[i] = args[i];
        try {
            return ((Number) method(book.getClass(), name, args.length).invoke(book, boxed)).longValue();
        } catch (InvocationTargetException thrown) {
            throw new IllegalStateException(named(name, args) + " threw", thrown.getCause());
        } catch (ReflectiveOperationException missing) {
            throw new IllegalStateException(named(name, args) + " can't be called", missing);
        }
    }

    /** The call as it would stand in a program; the outermost ints by their names. */
    static String named(String name, int... args) {
        return name + Arrays.toString(args).replace('[', '(').replace(']', ')')
            .replace("-2147483648", "MIN").replace("2147483647", "MAX");
    }

    private static Method method(Class<?> owner, String name, int many) throws NoSuchMethodException {
        String key = owner.getName() + " " + name;
        Method known = FOUND.get(key);
        if (known != null) return known;
        Class<?>[] types = new Class<?>[many];
        Arrays.fill(types, int.class);
        Method method = owner.getMethod(name, types);
        FOUND.put(key, method);
        return method;
    }
}
