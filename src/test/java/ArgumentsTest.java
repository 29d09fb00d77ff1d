import java.lang.reflect.InvocationTargetException;
import java.lang.reflect.Method;
import java.lang.reflect.Modifier;
import java.util.Arrays;
import java.util.Comparator;

/** Every method with arguments of all sorts in states of all sorts: it throws nothing but what it declares. */
public final class ArgumentsTest {
    private static final int[] NUMBERS = {Integer.MIN_VALUE, -1000, -51, -7, -1, 0, 1, 2, 6, 7, 13, 41, 1000,
        Integer.MAX_VALUE};
    private static final int[] FEW = {Integer.MIN_VALUE, -1, 0, 1, 7, Integer.MAX_VALUE};
    /** Fewer than the 512 calls for which an object is used, so that one can be made ready before them. */
    private static final int CALLS = 450;

    private static Edge.Making making;
    private static ToeplitzLab lab;
    private static int calls;

    public static void main(String[] args) throws IllegalAccessException {
        Edge.Making[] makings = {ToeplitzLab::new, Edge::used, Edge.of("toeplitz 1 prime 2"),
            Edge.of("toeplitz 7 prime 31;band -6 -1 50;band 0 6 -50;side 6 999;probe 0 -999"),
            Edge.of("toeplitz 7 prime 31;diagonal -1 1;diagonal 6 1"), Edge.of(MinorTest.JUMP)};
        Method[] methods = ToeplitzLab.class.getDeclaredMethods();
        // Their order is not promised, and the states that the calls go through depend on it.
        Arrays.sort(methods, Comparator.comparing(Method::getName));
        for (Edge.Making each : makings) {
            making = each;
            calls = CALLS;
            for (Method method : methods) {
                if (Modifier.isPublic(method.getModifiers())) {
                    allArguments(method, new Object[method.getParameterCount()], 0);
                }
            }
        }
        Check.finish();
    }

    private static void allArguments(Method method, Object[] arguments, int place) throws IllegalAccessException {
        if (place == arguments.length) {
            call(method, arguments);
            return;
        }
        if (method.getParameterTypes()[place] == boolean.class) {
            for (boolean side : new boolean[] {false, true}) {
                arguments[place] = side;
                allArguments(method, arguments, place + 1);
            }
            return;
        }
        for (int number : arguments.length > 2 ? FEW : NUMBERS) {
            arguments[place] = number;
            allArguments(method, arguments, place + 1);
        }
    }

    private static void call(Method method, Object[] arguments) throws IllegalAccessException {
        if (calls >= CALLS) {
            lab = making.make();
            calls = 0;
        }
        calls++;
        try {
            method.invoke(lab, arguments);
        } catch (InvocationTargetException e) {
            Class<?> thrown = e.getCause().getClass();
            Check.same(method.getName() + Arrays.toString(arguments) + " may throw " + thrown, true,
                    Arrays.asList(method.getExceptionTypes()).contains(thrown));
        }
    }
}
