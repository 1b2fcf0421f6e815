import java.lang.reflect.InvocationTargetException;
import java.lang.reflect.Method;
import java.util.Arrays;
import java.util.Comparator;
import java.util.List;
import java.util.Objects;

/** Counts and prints what is not as due, and ends a test. */
final class Check {
    // Far above what any of the tests needs; a call that does not end must not keep them all.
    private static final long MOST_MILLISECONDS = 300_000L;

    private static int checks = 0;
    private static int wrong = 0;
    private static volatile String place = "";

    static {
        Thread watch = new Thread(Check::endLate);
        watch.setDaemon(true);
        watch.start();
    }

    private Check() {
    }

    private static void endLate() {
        try {
            Thread.sleep(MOST_MILLISECONDS);
        } catch (InterruptedException e) {
            return;
        }
        System.out.println(place + "this did not end in time");
        Runtime.getRuntime().halt(2);
    }

    static void same(String what, Object due, Object got) {
        checks++;
        if (!Objects.equals(due, got)) {
            wrong++;
            System.out.println(place + what + " answered " + got + ", due is " + due);
        }
    }

    /** The call must throw just this exception. */
    static void refuses(String what, Class<? extends RuntimeException> due, Runnable call) {
        same(what, due, thrownBy(call));
    }

    /** The call must throw just this exception and leave the object as it was. */
    static void refuses(String what, Class<? extends RuntimeException> due, PamphletQuarrel x,
            Runnable call) {
        String before = Picture.of(x);
        refuses(what, due, call);
        same(what + " changed", before, Picture.of(x));
    }

    static Class<?> thrownBy(Runnable call) {
        try {
            call.run();
            return null;
        } catch (RuntimeException e) {
            return e.getClass();
        }
    }

    /** The tests of a class that say of which sentence they are, by promises and names. */
    static List<Method> testsOf(Class<?> tests) {
        return Arrays.stream(tests.getDeclaredMethods())
                .filter(method -> method.isAnnotationPresent(Says.class))
                .sorted(Comparator.comparing((Method m) -> m.getAnnotation(Says.class).promise())
                        .thenComparing(Method::getName))
                .toList();
    }

    /** Runs each of these tests by itself: one that throws does not keep the others from it. */
    static void run(Class<?> tests) {
        List<Method> all = testsOf(tests);
        all.forEach(Check::runOne);
        System.out.print(all.size() + " tests, ");
        end();
    }

    private static void runOne(Method test) {
        Says says = test.getAnnotation(Says.class);
        place = "promise " + says.promise() + ", " + test.getName()
                + ", \"" + says.value() + "\": ";
        int before = checks;
        try {
            test.setAccessible(true);
            test.invoke(null);
        } catch (InvocationTargetException e) {
            same("the test", "an end", e.getCause());
        } catch (IllegalAccessException e) {
            same("the test", "a test that can be called", e);
        }
        if (checks == before) {
            same("the test", "some checks", "none");
        }
        place = "";
    }

    static void end() {
        System.out.println(checks + " checks, " + wrong + " wrong");
        if (wrong != 0 || checks == 0) {
            System.exit(1);
        }
    }
}
