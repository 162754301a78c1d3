import java.lang.reflect.InvocationTargetException;
import java.lang.reflect.Method;
import java.lang.reflect.Modifier;
import java.util.ArrayList;
import java.util.Comparator;
import java.util.List;

/** Whatever is called, and however often: a call throws nothing but the very exceptions that it names. */
public final class AnyCallsTest {
    private static final int OBJECTS = 40;
    private static final int CALLS = 20000;
    private static final int[] NUMBERS = {Integer.MIN_VALUE, -1, 0, 1, 2, 3, 4, 5, 6, 7, 11, 12, 15, 16, 30, 99, 999, 1000, 3650,
        100000000, 1000000000, 1200000000, Integer.MAX_VALUE};
    private static final String SIGNS = "cadwpsng0123>:; ";

    private static long seed = 5;

    public static void main(String[] args) throws IllegalAccessException {
        List<Method> methods = new ArrayList<>();
        for (Method method : ArbitrationFees.class.getDeclaredMethods()) {
            if (Modifier.isPublic(method.getModifiers())) {
                methods.add(method);
            }
        }
        methods.sort(Comparator.comparing(Method::getName));
        for (int i = 0; i < OBJECTS; i++) {
            ArbitrationFees x = new ArbitrationFees();
            for (int j = 0; j < CALLS; j++) {
                Method method = methods.get(pick(methods.size()));
                boolean isRare = method.getName().equals("clear") || method.getName().equals("restore");
                if (!isRare || pick(50) == 0) {
                    invoke(x, method);
                }
            }
        }
        Check.end();
    }

    private static int pick(int bound) {
        seed = seed * 6364136223846793005L + 1442695040888963407L;
        return (int) ((seed >>> 33) % bound);
    }

    private static Object argument(Class<?> type) {
        if (type == boolean.class) {
            return pick(2) == 0;
        }
        if (type == char.class) {
            return pick(50) == 0 ? (char) pick(65536) : SIGNS.charAt(pick(SIGNS.length()));
        }
        return pick(3) > 0 ? Integer.valueOf(pick(8)) : Integer.valueOf(NUMBERS[pick(NUMBERS.length)]);
    }

    private static void invoke(ArbitrationFees x, Method method) throws IllegalAccessException {
        Object[] arguments = new Object[method.getParameterCount()];
        for (int i = 0; i < arguments.length; i++) {
            arguments[i] = argument(method.getParameterTypes()[i]);
        }
        boolean isNamed = true;
        try {
            method.invoke(x, arguments);
        } catch (InvocationTargetException e) {
            isNamed = List.of(method.getExceptionTypes()).contains(e.getCause().getClass());
        }
        Check.due("only named exceptions of " + method.getName(), isNamed ? 1 : 0, 1);
    }
}
