import java.util.function.LongSupplier;

/** Counts what is as due and prints what is not. */
final class Checks {
    private int passed = 0;
    private int failed = 0;
    private String test = "";

    /** The answer of a call as a text: a number, or the exception's name behind "throws.". */
    static String answer(LongSupplier call) {
        try {
            return Long.toString(call.getAsLong());
        } catch (RuntimeException thrown) {
            return "throws." + thrown.getClass().getSimpleName();
        }
    }

    /** What is checked from here on belongs to this test. */
    void begin(String name) {
        test = name + ": ";
    }

    void due(String what, LongSupplier call, long want) {
        same(what, answer(call), Long.toString(want));
    }

    void due(String what, LongSupplier call, String want) {
        same(what, answer(call), want);
    }

    void outOfBounds(String what, LongSupplier call) {
        due(what, call, Bench.OUT_OF_BOUNDS);
    }

    void badArgument(String what, LongSupplier call) {
        due(what, call, Bench.BAD_ARGUMENT);
    }

    void badState(String what, LongSupplier call) {
        due(what, call, Bench.BAD_STATE);
    }

    boolean same(String what, String got, String want) {
        boolean right = got.equals(want);
        if (right) {
            passed++;
        } else {
            failed++;
            System.out.println(test + what + ": answered " + got + ", due is " + want);
        }
        return right;
    }

    int failed() {
        return failed;
    }

    void end(String name) {
        System.out.println(name + ":");
        System.out.println(passed + " passed, " + failed + " failed");
        if (failed != 0 || passed == 0) {
            System.exit(1);
        }
    }
}
