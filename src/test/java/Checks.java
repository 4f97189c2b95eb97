import java.util.function.LongSupplier;

/** Counts what is as due and prints what is not. */
final class Checks {
    private int passed = 0;
    private int failed = 0;

    /** The answer of a call as a text: a number, or the exception's name behind "throws.". */
    static String answer(LongSupplier call) {
        try {
            return Long.toString(call.getAsLong());
        } catch (RuntimeException thrown) {
            return "throws." + thrown.getClass().getSimpleName();
        }
    }

    void due(String what, LongSupplier call, long want) {
        same(what, answer(call), Long.toString(want));
    }

    void outOfBounds(String what, LongSupplier call) {
        same(what, answer(call), "throws.IndexOutOfBoundsException");
    }

    void badArgument(String what, LongSupplier call) {
        same(what, answer(call), "throws.IllegalArgumentException");
    }

    void badState(String what, LongSupplier call) {
        same(what, answer(call), "throws.IllegalStateException");
    }

    boolean same(String what, String got, String want) {
        boolean right = got.equals(want);
        if (right) {
            passed++;
        } else {
            failed++;
            System.out.println(what + ": answered " + got + ", due is " + want);
        }
        return right;
    }

    int failed() {
        return failed;
    }

    void end(String name) {
        System.out.println(name + ":");
        System.out.println(passed + " passed, " + failed + " failed");
        if (failed != 0 || passed == 0) {
            System.exit(1);
        }
    }
}
