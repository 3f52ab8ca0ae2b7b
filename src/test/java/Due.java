import java.util.concurrent.Callable;

/** Counts and prints the calls whose answer is not the one that is due. */
final class Due {
    private static int wrong = 0;
    private static int asked = 0;

    private Due() {
    }

    static void answer(String call, Object got, Object want) {
        asked++;
        if (!want.equals(got)) {
            wrong++;
            System.out.println(call + " answered " + got + ", due is " + want);
        }
    }

    /** The very class is asked for: what the machine throws by itself is mostly a class below it. */
    static void thrown(String call, Class<? extends Exception> want, Callable<?> made) {
        Object got;
        try {
            got = made.call();
        } catch (Exception e) {
            got = e.getClass();
        }
        answer(call, got, want);
    }

    static void noSuch(String call, Callable<?> made) {
        thrown(call, IndexOutOfBoundsException.class, made);
    }

    static void badArgument(String call, Callable<?> made) {
        thrown(call, IllegalArgumentException.class, made);
    }

    static void badState(String call, Callable<?> made) {
        thrown(call, IllegalStateException.class, made);
    }

    static void end() {
        System.out.println(asked + " answers, " + wrong + " not as due");
        if (wrong != 0 || asked == 0) {
            System.exit(1);
        }
    }

    /** Adds a pattern of these phases; returns its number. */
    static int pattern(LampRhythms harbour, int... phases) {
        for (int seconds : phases) {
            harbour.phase(seconds);
        }
        return harbour.pattern();
    }
}
