import java.lang.reflect.InvocationTargetException;
import java.lang.reflect.Method;
import java.lang.reflect.Modifier;
import java.util.HashMap;
import java.util.Map;

/** Calls of PetalPictures and of Model by their names. */
final class Calls {
    private static final Map<Class<?>, Map<String, Method>> METHODS = new HashMap<>();

    private Calls() {
    }

    /** What an object answers; the arguments are cut to ints, but for the one that is a long. */
    static long answer(Object of, String name, long... args) {
        Object[] given = new Object[args.length];
        for (int i = 0; i < args.length; i++) {
            given[i] = isLong(name, i) ? (Object) Long.valueOf(args[i]) : (Object) Integer.valueOf((int) args[i]);
        }
        try {
            return ((Number) methodOf(of.getClass(), name).invoke(of, given)).longValue();
        } catch (InvocationTargetException e) {
            throw new IllegalStateException(told(name, args) + " threw", e.getCause());
        } catch (IllegalAccessException e) {
            throw new IllegalStateException(e);
        }
    }

    static boolean isLong(String name, int argument) {
        return name.equals("set") && argument == 2;
    }

    static String told(String name, long... args) {
        StringBuilder text = new StringBuilder(name).append('(');
        for (int i = 0; i < args.length; i++) {
            text.append(i == 0 ? "" : ", ").append(args[i]);
        }
        return text.append(')').toString();
    }

    /** The public method of a name (none has two). */
    private static Method methodOf(Class<?> type, String name) {
        Map<String, Method> known = METHODS.computeIfAbsent(type, Calls::methodsOf);
        Method method = known.get(name);
        if (method == null) {
            throw new IllegalStateException("no method " + name);
        }
        return method;
    }

    private static Map<String, Method> methodsOf(Class<?> type) {
        Map<String, Method> methods = new HashMap<>();
        for (Method one : type.getDeclaredMethods()) {
            if (Modifier.isPublic(one.getModifiers())) {
                one.setAccessible(true);
                methods.put(one.getName(), one);
            }
        }
        return methods;
    }
}
