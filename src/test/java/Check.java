import java.util.Objects;

/** Counts and prints what is not as due, and ends a test. */
final class Check {
    private static int checks = 0;
    private static int wrong = 0;

    private Check() {
    }

    static void same(String what, Object due, Object got) {
        checks++;
        if (!Objects.equals(due, got)) {
            wrong++;
            System.out.println(what + " answered " + got + ", due is " + due);
        }
    }

    /** The call must throw just this exception. */
    static void refuses(String what, Class<? extends RuntimeException> due, Runnable call) {
        same(what, due, thrownBy(call));
    }

    /** The call must throw just this exception and leave the object as it was. */
    static void refuses(String what, Class<? extends RuntimeException> due, PamphletQuarrel x,
            Runnable call) {
        String before = Picture.of(x);
        refuses(what, due, call);
        same(what + " changed", before, Picture.of(x));
    }

    private static Class<?> thrownBy(Runnable call) {
        try {
            call.run();
            return null;
        } catch (RuntimeException e) {
            return e.getClass();
        }
    }

    static void end() {
        System.out.println(checks + " checks, " + wrong + " wrong");
        if (wrong != 0 || checks == 0) {
            System.exit(1);
        }
    }
}
