import java.lang.reflect.Method;
import java.util.HashMap;
import java.util.Map;

/** Calls by their names, of the program or of the model. */
final class Calls {
    private static final Map<Class<?>, Map<String, Method>> KNOWN = new HashMap<>();

    private Calls() {
    }

    static long on(Object x, String call, long... arguments) {
        Method method = methods(x.getClass()).get(call);
        Class<?>[] types = method.getParameterTypes();
        Object[] all = new Object[arguments.length];
        for (int i = 0; i < all.length; i++) {
            all[i] = types[i] == long.class ? (Object) arguments[i] : (Object) (int) arguments[i];
        }
        try {
            return ((Number) method.invoke(x, all)).longValue();
        } catch (ReflectiveOperationException thrown) {
            throw new IllegalStateException(told(call, arguments) + " threw", thrown);
        }
    }

    static int arguments(String call) {
        return methods(PieFunnels.class).get(call).getParameterCount();
    }

    static String told(String call, long... arguments) {
        StringBuilder out = new StringBuilder(call).append('(');
        for (int i = 0; i < arguments.length; i++) {
            out.append(i == 0 ? "" : ", ").append(arguments[i]);
        }
        return out.append(')').toString();
    }

    private static Map<String, Method> methods(Class<?> of) {
        if (!KNOWN.containsKey(of)) {
            Map<String, Method> all = new HashMap<>();
            for (String call : Runs.CALLS) {
                for (Method method : of.getDeclaredMethods()) {
                    if (method.getName().equals(call)) {
                        method.setAccessible(true);
                        all.put(call, method);
                    }
                }
            }
            KNOWN.put(of, all);
        }
        return KNOWN.get(of);
    }
}
