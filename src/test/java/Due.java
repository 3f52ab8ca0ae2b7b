import java.util.concurrent.Callable;

/** Counts and prints the calls whose answer is not the one that is due. */
final class Due {
    private static int wrong = 0;
    private static int asked = 0;

    private Due() {
    }

    static void answer(String call, Object got, Object want) {
        asked++;
        if (!want.equals(got)) {
            wrong++;
            System.out.println(call + " answered " + got + ", due is " + want);
        }
    }

    private static void thrown(String call, Class<? extends Exception> want, Callable<?> made) {
        Object got;
        try {
            got = made.call();
        } catch (Exception e) {
            got = nameOf(e);
        }
        answer(call, got, want.getSimpleName());
    }

    /** What the machine or the library throws is told apart from what LampRhythms itself throws. */
    static String nameOf(Exception e) {
        StackTraceElement[] from = e.getStackTrace();
        boolean own = from.length > 0 && from[0].getClassName().startsWith("LampRhythms");
        boolean named = e.getClass() == IndexOutOfBoundsException.class
                || e.getClass() == IllegalArgumentException.class
                || e.getClass() == IllegalStateException.class;
        return own && named ? e.getClass().getSimpleName() : "of the machine: " + e;
    }

    static void noSuch(String call, Callable<?> made) {
        thrown(call, IndexOutOfBoundsException.class, made);
    }

    static void badArgument(String call, Callable<?> made) {
        thrown(call, IllegalArgumentException.class, made);
    }

    static void badState(String call, Callable<?> made) {
        thrown(call, IllegalStateException.class, made);
    }

    static void end() {
        System.out.println(asked + " answers, " + wrong + " not as due");
        if (wrong != 0 || asked == 0) {
            System.exit(1);
        }
    }

    /** Adds a pattern of these phases; returns its number. */
    static int pattern(LampRhythms harbour, int... phases) {
        for (int seconds : phases) {
            harbour.phase(seconds);
        }
        return harbour.pattern();
    }
}
