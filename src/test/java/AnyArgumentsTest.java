import java.lang.reflect.InvocationTargetException;
import java.lang.reflect.Method;
import java.lang.reflect.Modifier;
import java.util.ArrayList;
import java.util.Arrays;
import java.util.Comparator;
import java.util.List;

/** Calls every method with any arguments in many states: only exceptions that it declares may come, of just that class. */
public final class AnyArgumentsTest {
    private static final int RUNS = 3000;
    private static final int CALLS = 200;
    private static final int[] ODD = {-1, 8, 9, 10, 24, 25, 48, 49, 63, 64, Integer.MIN_VALUE, Integer.MAX_VALUE};
    private static final String[] TEXTS = {"wait 3", "depth 12=0;ship 34 4", "light 33 4/9;phase 0=2", "steer 0>77;wait 48",
        "salvage 0", "douse 0;douse 0", "ship 00 9", "wait", "light 8"};

    private static long seed = 20261119;

    public static void main(String[] args) throws Exception {
        List<Method> methods = new ArrayList<>();
        for (Method method : BeamChart.class.getDeclaredMethods()) {
            if (Modifier.isPublic(method.getModifiers())) {
                methods.add(method);
            }
        }
        methods.sort(Comparator.comparing(Method::getName));
        for (int run = 0; run < RUNS; run++) {
            BeamChart x = new BeamChart();
            for (int call = 0; call < CALLS; call++) {
                if (below(12) == 0) {
                    feed(x, TEXTS[below(TEXTS.length)]);
                }
                call(x, methods.get(below(methods.size())));
            }
        }
        Check.end("AnyArgumentsTest");
    }

    private static int below(int bound) {
        seed = seed * 6364136223846793005L + 1442695040888963407L;
        return (int) ((seed >>> 33) % bound);
    }

    private static void feed(BeamChart x, String text) {
        for (int i = 0; i < text.length(); i++) {
            try {
                x.feed(text.charAt(i));
            } catch (IllegalStateException e) {
                return;
            }
        }
    }

    private static void call(BeamChart x, Method method) throws Exception {
        Object[] values = new Object[method.getParameterCount()];
        for (int i = 0; i < values.length; i++) {
            int odd = below(12) == 0 ? ODD[below(ODD.length)] : below(8);
            values[i] = method.getParameterTypes()[i] == char.class ? (Object) (char) odd : (Object) odd;
        }
        try {
            method.invoke(x, values);
            Check.yes("an answer", true);
        } catch (InvocationTargetException e) {
            Class<?> thrown = e.getCause().getClass();
            boolean declared = Arrays.asList(method.getExceptionTypes()).contains(thrown);
            Check.yes(method.getName() + Arrays.toString(values) + " throws " + thrown, declared);
        }
    }
}
