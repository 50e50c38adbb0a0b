import java.lang.reflect.InvocationTargetException;
import java.lang.reflect.Method;
import java.lang.reflect.Modifier;
import java.util.ArrayList;
import java.util.Arrays;
import java.util.Comparator;
import java.util.List;
import java.util.Random;

/** Any arguments in any state, far beyond 512 calls too: a call throws what it declares, by itself, or nothing. */
final class WildTest {
    private static final int[] POOL = {0, 0, 0, 1, 1, 1, 2, 2, 3, 4, 5, 6, 7, 8, 9, 10, 20, 50, 51, 79, 80, 81, 99, 100,
        1000, 1001, 10000, -1, -1, -2, -100, -1001, Integer.MAX_VALUE, Integer.MIN_VALUE};

    private final Random dice;
    private final List<Method> methods = new ArrayList<>();
    private final boolean tame;

    private WildTest(long seed) {
        dice = new Random(seed);
        tame = seed % 2 == 0;
        for (Method method : Leasehall.class.getDeclaredMethods()) {
            boolean ends = tame && Arrays.asList("close", "pass", "restore").contains(method.getName());
            if (Modifier.isPublic(method.getModifiers()) && !ends) {
                methods.add(method);
            }
        }
        methods.sort(Comparator.comparing(Method::getName));
    }

    private Object[] arguments(Method method) {
        Object[] arguments = new Object[method.getParameterCount()];
        for (int i = 0; i < arguments.length; i++) {
            int number = tame ? dice.nextInt(6) : POOL[dice.nextInt(POOL.length)];
            boolean isFlag = method.getParameterTypes()[i] == boolean.class;
            arguments[i] = isFlag ? (Object) dice.nextBoolean() : (Object) number;
        }
        return arguments;
    }

    private static boolean isDeclared(Method method, Throwable thrown) {
        return Check.isOwn(thrown) && Arrays.asList(method.getExceptionTypes()).contains(thrown.getClass());
    }

    private void runs(int calls) throws IllegalAccessException {
        Leasehall house = new Leasehall();
        for (int i = 0; i < calls; i++) {
            Method method = methods.get(dice.nextInt(methods.size()));
            Object[] arguments = arguments(method);
            try {
                method.invoke(house, arguments);
            } catch (InvocationTargetException e) {
                boolean fine = isDeclared(method, e.getCause());
                Check.is(method.getName() + Arrays.toString(arguments) + " throws " + e.getCause(), true, fine);
            }
        }
    }

    public static void main(String[] args) throws IllegalAccessException {
        for (int run = 0; run < 40; run++) {
            new WildTest(run).runs(run < 30 ? 2000 : 60_000);
        }
        Check.end("wild calls");
    }
}
