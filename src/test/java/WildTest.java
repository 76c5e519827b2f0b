import java.lang.reflect.InvocationTargetException;
import java.lang.reflect.Method;
import java.lang.reflect.Modifier;
import java.util.function.Supplier;

/** LANGUAGE.md, rule 7: no call throws, whatever the numbers and the state are; each takes all of these for each argument. */
public final class WildTest {
    private static final Check C = new Check("wild numbers");
    private static final int MIN = Integer.MIN_VALUE, MAX = Integer.MAX_VALUE;
    private static final int[] MANY = {MIN, MIN + 10, -100, -2, -1, 0, 1, 3, 5, 6, 12, 40, 59, 60, 61, 99, 100, 10000, MAX - 10, MAX};
    private static final int[] FEW = {MIN, -1, 0, 2, 5, 60, MAX};
    private static final long[] LONGS = {Long.MIN_VALUE, -1, 0, 1L << 40, Long.MAX_VALUE};
    /** An object is used for so many calls, its making told in. */
    private static final int CALLS = 250;

    public static void main(String[] args) throws Exception {
        for (Method m : StruckWhile.class.getDeclaredMethods()) {
            if (Modifier.isPublic(m.getModifiers())) {
                for (Supplier<StruckWhile> made : Stands.ALL) {
                    callAll(m, made);
                }
            }
        }
        C.end();
    }

    private static void callAll(Method m, Supplier<StruckWhile> made) throws IllegalAccessException {
        Class<?>[] types = m.getParameterTypes();
        int[] numbers = types.length > 3 ? FEW : MANY;
        int ways = 1;
        for (Class<?> type : types) {
            ways *= waysOf(type, numbers);
        }
        StruckWhile x = made.get();
        for (int way = 0; way < ways; way++) {
            if (way % CALLS == CALLS - 1) {
                x = made.get();
            }
            Object[] arguments = new Object[types.length];
            int rest = way;
            for (int i = 0; i < types.length; i++) {
                int which = rest % waysOf(types[i], numbers);
                rest /= waysOf(types[i], numbers);
                arguments[i] = argument(types[i], which, numbers);
            }
            call(m, x, arguments);
        }
    }

    private static Object argument(Class<?> type, int which, int[] numbers) {
        if (type == boolean.class) {
            return which == 1;
        }
        if (type == long.class) {
            return LONGS[which];
        }
        return numbers[which];
    }

    private static int waysOf(Class<?> type, int[] numbers) {
        return type == boolean.class ? 2 : type == long.class ? LONGS.length : numbers.length;
    }

    private static void call(Method m, StruckWhile x, Object[] arguments) throws IllegalAccessException {
        try {
            m.invoke(x, arguments);
            C.holds("it answers", true);
        } catch (InvocationTargetException e) {
            C.holds(m.getName() + java.util.Arrays.toString(arguments) + " threw " + e.getCause(), false);
        }
    }
}
