import java.lang.reflect.InvocationTargetException;
import java.lang.reflect.Method;
import java.util.Arrays;
import java.util.Comparator;
import java.util.HashMap;
import java.util.Map;

/** Long runs of calls, always the same ones, on the class and on the model; every answer has to agree. */
public final class ModelTest {
    private static final int[] PRIMES = {2, 3, 5, 7, 11, 13, 17, 19, 23, 29, 31};
    /** An object is used for 512 calls; a load and its appends, which are some 40 calls, still follow these. */
    private static final int CALLS = 460;

    /** An object and the model of it, which have had the same calls. */
    private static final class Twins {
        final ToeplitzLab lab = new ToeplitzLab();
        final Model model = new Model();
        int calls;
    }

    private static final Method[] METHODS = methods();
    private static final Map<Method, Method> TWINS = twins();
    private static long seed;

    private static Method[] methods() {
        Method[] all = Arrays.stream(ToeplitzLab.class.getDeclaredMethods())
                .filter(m -> java.lang.reflect.Modifier.isPublic(m.getModifiers()))
                .toArray(Method[]::new);
        Arrays.sort(all, Comparator.comparing(Method::getName));
        return all;
    }

    private static Map<Method, Method> twins() {
        Map<Method, Method> twins = new HashMap<>();
        for (Method m : METHODS) {
            try {
                twins.put(m, Model.class.getMethod(m.getName(), m.getParameterTypes()));
            } catch (NoSuchMethodException e) {
                throw new AssertionError(e);
            }
        }
        return twins;
    }

    private static int below(int bound) {
        seed = seed * 6364136223846793005L + 1442695040888963407L;
        return (int) ((seed >>> 33) % bound);
    }

    private static int within(int low, int high) {
        return low + below(Math.max(1, high - low + 1));
    }

    private static Object answer(Method m, Object target, Object[] arguments) {
        try {
            return m.invoke(target, arguments);
        } catch (InvocationTargetException e) {
            return e.getCause().getClass().getName();
        } catch (IllegalAccessException e) {
            throw new AssertionError(e);
        }
    }

    private static boolean both(int run, Twins pair, Method m, Object... arguments) {
        pair.calls++;
        Object got = answer(m, pair.lab, arguments);
        Object due = answer(TWINS.get(m), pair.model, arguments);
        if (!got.equals(due)) {
            Check.same("run " + run + ": " + m.getName() + Arrays.toString(arguments), due, got);
            return false;
        }
        return true;
    }

    private static Method named(String name) {
        for (Method m : METHODS) {
            if (m.getName().equals(name)) {
                return m;
            }
        }
        throw new AssertionError(name);
    }

    private static Object[] arguments(Method m, int size) {
        Object[] list = new Object[m.getParameterCount()];
        for (int k = 0; k < list.length; k++) {
            list[k] = m.getParameterTypes()[k] == boolean.class ? (Object) (below(2) == 1) : (Object) index(size);
        }
        switch (m.getName()) {
            case "diagonal":
                list[0] = within(-size, size);
                break;
            case "minorIf":
                list[0] = within(-size, size);
                list[1] = within(-53, 53);
                break;
            case "setDiagonal":
                list[0] = within(-size, size);
                list[1] = below(3) == 0 ? within(-53, 53) : within(-2, 2);
                break;
            case "setSide":
            case "setProbe":
                list[1] = below(3) == 0 ? within(-1050, 1050) : within(-9, 9);
                break;
            case "setPrime":
                list[0] = below(4) == 0 ? within(-2, 40) : PRIMES[below(PRIMES.length)];
                break;
            case "grow":
                list[0] = within(-52, 52);
                list[1] = below(2) == 0 ? within(-52, 52) : 0;
                list[2] = within(-1030, 1030);
                break;
            case "refine":
                list[0] = below(3) == 0 ? within(-2, 43) : within(1, 3);
                break;
            case "digit":
                list[0] = within(-1, 40);
                break;
            case "accountOf":
                list[0] = within(-1, 31);
                list[1] = within(-1, 3);
                break;
            case "circulant":
            case "wrapped":
                list[0] = within(-1, 2 * size);
                if (list.length > 1) {
                    list[1] = within(-1, 2 * size);
                }
                break;
            case "save":
            case "restore":
                list[0] = below(4) == 0 ? within(-1, 2) : below(2);
                break;
            default:
                break;
        }
        if (list.length > 0 && list[0] instanceof Integer && below(60) == 0) {
            list[0] = below(2) == 0 ? Integer.MIN_VALUE : Integer.MAX_VALUE;
        }
        return list;
    }

    private static int index(int size) {
        return below(12) == 0 ? within(-1, size) : within(0, Math.max(0, size - 1));
    }

    private static String text() {
        int n = below(9) == 0 ? within(0, 8) : within(1, 7);
        StringBuilder text = new StringBuilder();
        text.append("toeplitz ").append(n).append(" prime ").append(PRIMES[below(PRIMES.length)]);
        int lines = below(12);
        for (int k = 0; k < lines; k++) {
            text.append(below(3) == 0 ? " ; " : ";");
            int sort = below(7);
            int value = below(2) == 0 ? within(-2, 2) : within(-51, 51);
            if (sort < 3) {
                text.append("diagonal ").append(within(-n, n)).append(' ').append(value);
            } else if (sort < 4) {
                text.append("band ").append(within(1 - n, n)).append(' ').append(within(1 - n, n))
                        .append(' ').append(value);
            } else {
                text.append(sort == 4 ? "probe " : "side ").append(within(0, n)).append(' ')
                        .append(within(-1005, 1005));
            }
        }
        return text.toString();
    }

    /** A text with every diagonal told, so that it has few errors and matrices of all sorts. */
    private static String goodText() {
        int n = within(1, 7);
        int spread = below(3) == 0 ? 50 : within(1, 3);
        StringBuilder text = new StringBuilder();
        text.append("toeplitz ").append(n).append(" prime ").append(PRIMES[below(below(2) == 0 ? 3 : 11)]);
        for (int k = 1 - n; k < n; k++) {
            if (below(3) != 0) {
                text.append(";diagonal ").append(k).append(' ').append(within(-spread, spread));
            }
        }
        for (int i = 0; i < n; i++) {
            text.append(";side ").append(i).append(' ').append(within(-20, 20));
            if (below(2) == 0) {
                text.append(";probe ").append(i).append(' ').append(within(-999, 999));
            }
        }
        return text.toString();
    }

    private static String spoilt(String text) {
        String signs = " ;-0195abtpd~A\u0000\u00ff";
        StringBuilder spoilt = new StringBuilder(text);
        for (int k = below(3); k > 0; k--) {
            int at = below(spoilt.length());
            char sign = signs.charAt(below(signs.length()));
            if (below(3) == 0) {
                spoilt.setCharAt(at, sign);
            } else if (below(2) == 0) {
                spoilt.insert(at, sign);
            } else {
                spoilt.deleteCharAt(at);
            }
        }
        return spoilt.toString();
    }

    private static boolean loadBoth(int run, Twins pair, String text, int length) {
        StringBuilder padded = new StringBuilder(text);
        while (padded.length() % 20 != 0) {
            padded.append(' ');
        }
        boolean good = true;
        for (int at = 0; at < padded.length(); at += 20) {
            Object[] words = new Object[5];
            for (int w = 0; w < 5; w++) {
                int word = 0;
                for (int k = 0; k < 4; k++) {
                    word = word << 8 | padded.charAt(at + 4 * w + k);
                }
                words[w] = word;
            }
            good &= both(run, pair, named("append"), words);
        }
        good &= both(run, pair, named("load"), length);
        good &= both(run, pair, named("parseError"));
        good &= both(run, pair, named("errorPosition"));
        return good;
    }

    private static void textRun(int run) {
        Twins pair = new Twins();
        for (int k = 0; k < 12; k++) {
            String text = spoilt(below(2) == 0 ? text() : goodText());
            if (!loadBoth(run, pair, text, below(20) == 0 ? below(720) : text.length())) {
                return;
            }
        }
    }

    private static void callRun(int run) {
        Twins pair = new Twins();
        int growing = below(3);
        for (int k = 0; pair.calls < CALLS; k++) {
            if (k == 5 || below(250) == 0) {
                String text = goodText();
                if (!loadBoth(run, pair, text, below(20) == 0 ? below(720) : text.length())) {
                    return;
                }
            }
            Method m = METHODS[below(METHODS.length)];
            String name = m.getName();
            boolean rare = name.equals("load") || name.equals("append") || name.equals("restore");
            if (rare && below(20) != 0 || name.startsWith("set") && below(3) < growing && below(4) != 0) {
                m = named(below(3) == 0 ? "lift" : "refine");
            }
            if (!both(run, pair, m, arguments(m, pair.model.size()))) {
                return;
            }
        }
        Check.same("run " + run, true, pair.calls <= 512);
    }

    /** Every question about a system, and then about its refinement; new objects where one has had its calls. */
    private static void everyAnswer(int run) {
        String text = goodText();
        Twins pair = loaded(run, text);
        int n = pair.model.size();
        for (String name : new String[] {"rank", "isRegular", "steps", "longestJump", "tail", "regularPrimes",
            "mostGenerators", "isSolvable", "mostDigits", "liftsTo", "probeSolves"}) {
            both(run, pair, named(name));
        }
        for (int i = -1; i <= n + 1; i++) {
            for (String name : new String[] {"minor", "stepEnd", "solution", "kernel", "product", "generators"}) {
                both(run, pair, named(name), i);
            }
            for (int j = -1; j <= n; j++) {
                pair = pair.calls < CALLS ? pair : loaded(run, text);
                both(run, pair, named("inverse"), i, j);
                for (int step = 0; step <= pair.model.steps(); step++) {
                    both(run, pair, named("schur"), step, i, j);
                    both(run, pair, named("displacement"), step, i, j);
                    both(run, pair, named("generator"), step, i, j, true);
                    both(run, pair, named("generator"), step, i, j, false);
                }
            }
        }
        pair = loaded(run, text);
        both(run, pair, named("refine"), 40);
        for (int i = 0; i < n; i++) {
            for (String name : new String[] {"residual", "value", "centred", "numerator", "denominator", "quotient"}) {
                both(run, pair, named(name), i);
            }
        }
        Check.same("run " + run, true, pair.calls <= 512);
    }

    private static Twins loaded(int run, String text) {
        Twins pair = new Twins();
        loadBoth(run, pair, text, text.length());
        return pair;
    }

    public static void main(String[] args) {
        int scale = args.length > 0 ? Integer.parseInt(args[0]) : 1;
        seed = args.length > 1 ? Long.parseLong(args[1]) : 1;
        for (int run = 0; run < 400 * scale; run++) {
            textRun(run);
        }
        for (int run = 0; run < 60 * scale; run++) {
            callRun(run);
        }
        for (int run = 0; run < 60 * scale; run++) {
            everyAnswer(run);
        }
        Check.finish();
    }
}
