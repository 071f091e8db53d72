import java.lang.reflect.InvocationTargetException;
import java.lang.reflect.Method;
import java.util.ArrayList;
import java.util.Arrays;
import java.util.Comparator;
import java.util.List;

/** Any calls with any arguments, 512 on each object: none throws but what the face says of it, and that by the program's hand. */
public final class AnyCallsTest {
    private static final String SIGNS = "walkercarrierdonkeynearfarstoneoutwetloadcrossed<=>+/-[]0123456789x ";
    private static long row = 5;

    public static void main(String[] args) throws IllegalAccessException {
        List<Method> calls = new ArrayList<>();
        for (Method method : FordToll.class.getMethods()) {
            if (method.getDeclaringClass() == FordToll.class) {
                calls.add(method);
            }
        }
        calls.sort(Comparator.comparing(Method::getName));
        Check.is("The public face: calls", calls.size(), 33);
        for (int run = 0; run < 3000; run++) {
            runOf(calls);
        }
        Check.end("AnyCallsTest");
    }

    private static void runOf(List<Method> calls) throws IllegalAccessException {
        FordToll ford = new FordToll();
        for (int call = 0; call < 512; call++) {
            Method method = calls.get(below(calls.size()));
            try {
                method.invoke(ford, arguments(method));
            } catch (InvocationTargetException thrown) {
                Class<?> got = thrown.getCause().getClass();
                boolean isDue = Arrays.asList(method.getExceptionTypes()).contains(got);
                Check.is("Terms, Exceptions: " + method.getName() + " throws " + got.getName(), isDue, true);
                StackTraceElement[] where = thrown.getCause().getStackTrace();
                boolean isOurs = where.length == 0 || where[0].getClassName().equals("FordToll");
                Check.is("Terms, Exceptions: thrown in the class itself, " + method.getName(), isOurs, true);
            }
        }
    }

    private static Object[] arguments(Method method) {
        Class<?>[] taken = method.getParameterTypes();
        Object[] all = new Object[taken.length];
        for (int index = 0; index < all.length; index++) {
            if (taken[index] == int.class) {
                all[index] = number();
            } else if (taken[index] == char.class) {
                all[index] = SIGNS.charAt(below(SIGNS.length()));
            } else {
                all[index] = below(2) == 0;
            }
        }
        return all;
    }

    private static int number() {
        int kind = below(20);
        if (kind == 0) {
            return (int) (row >>> 20);
        }
        if (kind == 1) {
            return below(2) == 0 ? Integer.MAX_VALUE : Integer.MIN_VALUE;
        }
        return kind < 5 ? below(64) - 2 : below(13) - 1;
    }

    private static int below(int bound) {
        row = row * 6364136223846793005L + 1442695040888963407L;
        return (int) ((row >>> 33) % bound);
    }
}
