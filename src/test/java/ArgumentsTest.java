import java.lang.reflect.InvocationTargetException;
import java.lang.reflect.Method;
import java.lang.reflect.Modifier;
import java.util.Arrays;
import java.util.Comparator;
import java.util.List;
import java.util.function.Supplier;

/** For any arguments in several states, a call ends or throws just what its signature says. */
public final class ArgumentsTest {
    private static final int[] NUMBERS = {
        Stand.LOWEST, Stand.LOWEST + 1, -(1 << 29), -60, -8, -1, 0, 1, 2, 3, 7, 8, 15, 16, 19, 20,
        59, 60, 61, 99, 100, 101, 126, 127, 1 << 16, 1 << 28, 1 << 29, Stand.HIGHEST - 1,
        Stand.HIGHEST,
    };
    private static final int[] FEW = {Stand.LOWEST, -1, 0, 1, 2, 19, 60, 1 << 29, Stand.HIGHEST};
    private static final int CALLS_OF_AN_OBJECT = 150;

    private final Supplier<PamphletQuarrel> made;
    private PamphletQuarrel x;
    private int calls = CALLS_OF_AN_OBJECT;

    private ArgumentsTest(Supplier<PamphletQuarrel> made) {
        this.made = made;
    }

    public static void main(String[] args) {
        List<Method> methods = Arrays.stream(PamphletQuarrel.class.getDeclaredMethods())
                .filter(method -> Modifier.isPublic(method.getModifiers()))
                .sorted(Comparator.comparing(Method::getName))
                .toList();
        Check.same("methods of the face", 49, methods.size());
        for (Method method : methods) {
            new ArgumentsTest(PamphletQuarrel::new).tryAll(method);
            new ArgumentsTest(Stand::rich).tryAll(method);
            new ArgumentsTest(Stand::full).tryAll(method);
            new ArgumentsTest(ArgumentsTest::sixty).tryAll(method);
        }
        Check.end();
    }

    // The pamphlet 1 has 60 words, the buffer 100 characters.
    private static PamphletQuarrel sixty() {
        PamphletQuarrel y = Picture.daily(Stand.SPACED,
                Stand.quoted(22, 0) + " " + Stand.quoted(10, 0) + " " + Stand.times("z", 14));
        y.mendAll();
        return Picture.type(y, Stand.times("a", 50) + " ");
    }

    private void tryAll(Method method) {
        tryFrom(method, 0, new Object[method.getParameterCount()]);
    }

    private void tryFrom(Method method, int index, Object[] arguments) {
        if (index == arguments.length) {
            call(method, arguments);
            return;
        }
        for (int number : arguments.length > 2 ? FEW : NUMBERS) {
            arguments[index] = number;
            tryFrom(method, index + 1, arguments);
        }
    }

    private void call(Method method, Object[] arguments) {
        if (calls >= CALLS_OF_AN_OBJECT) {
            x = made.get();
            calls = 0;
        }
        calls++;
        try {
            Object answer = method.invoke(x, arguments);
            Check.same(method.getName() + " answers", true, answer != null);
        } catch (InvocationTargetException e) {
            boolean isTold = List.of(method.getExceptionTypes()).contains(e.getCause().getClass());
            if (!isTold) {
                Check.same(method.getName() + Arrays.toString(arguments), "an exception of its"
                        + " signature", e.getCause());
            }
        } catch (IllegalAccessException e) {
            Check.same(method.getName(), "a method that can be called", e);
        }
    }
}
