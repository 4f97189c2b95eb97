import java.lang.reflect.InvocationTargetException;
import java.lang.reflect.Method;
import java.util.ArrayList;
import java.util.List;
import java.util.TreeMap;
import java.util.function.Consumer;
import java.util.function.ToLongFunction;

/**
 * What the tests share: an object to ask, what is asked of it again and again, and what a refused
 * call is held to. A test is a method whose name begins with "promise" and the promise's number.
 */
abstract class Bench {
    static final String OUT_OF_BOUNDS = "throws.IndexOutOfBoundsException";
    static final String BAD_ARGUMENT = "throws.IllegalArgumentException";
    static final String BAD_STATE = "throws.IllegalStateException";

    /** Folds a letter 60 times, and leaves it flat. */
    static final String SIXTY = "((12)6)5";
    /** Folds a letter to the only one of the length 16. */
    static final String LONGEST = "(0123)4";

    final Checks checks = new Checks();
    FoldedLetters x = new FoldedLetters();

    /** A call with one argument that is tried at its bounds. */
    interface IndexCall {
        long on(FoldedLetters y, int index);
    }

    final void runAll() {
        TreeMap<String, Method> tests = new TreeMap<>();
        for (Method method : getClass().getDeclaredMethods()) {
            if (method.getName().matches("promise\\d.*") && method.getParameterCount() == 0) {
                tests.put(method.getName(), method);
            }
        }
        for (Method test : tests.values()) {
            fresh();
            runOne(test);
        }
        checks.end(getClass().getName());
    }

    private void runOne(Method test) {
        checks.begin(test.getName());
        try {
            test.invoke(this);
        } catch (InvocationTargetException | IllegalAccessException thrown) {
            checks.same("the test runs to its end", "" + thrown.getCause(), "it does");
        }
    }

    final void fresh() {
        x = new FoldedLetters();
    }

    final void type(String text) {
        type(x, text);
    }

    static void type(FoldedLetters y, String text) {
        for (int i = 0; i < text.length(); i++) {
            y.append(text.charAt(i));
        }
    }

    static void foldBy(FoldedLetters y, int letter, String creases) {
        for (int i = 0; i < creases.length(); i++) {
            y.fold(letter, creases.charAt(i) - '0');
        }
    }

    final void foldBy(int letter, String creases) {
        foldBy(x, letter, creases);
    }

    static void foldWord(FoldedLetters y, int letter, String text) {
        type(y, text);
        y.word(letter);
    }

    final void foldWord(int letter, String text) {
        foldWord(x, letter, text);
    }

    /** Letters that are folded and sealed, 5 saved states, another snapshot and a complete word. */
    static void busy(FoldedLetters y) {
        foldWord(y, 0, "10");
        foldWord(y, 4, "01");
        y.seal(0, 3);
        y.seal(4, 2);
        y.keep();
        foldWord(y, 2, "321");
        type(y, "0(1)2");
    }

    final void lies(String what, int letter, int... layers) {
        for (int p = 0; p < layers.length; p++) {
            int position = p;
            checks.due(what + ", position " + p, () -> x.layer(letter, position), layers[p]);
        }
    }

    final void isFlat(String what, int letter) {
        lies(what, letter, 1, 2, 3, 4);
    }

    final void remembers(String what, int letter, String creases) {
        StringBuilder told = new StringBuilder();
        for (int place = 0; place < x.letter(letter, 2); place++) {
            told.append(x.crease(letter, place));
        }
        checks.same(what, told.toString(), creases);
    }

    final void leastIs(String what, int letter, String creases) {
        StringBuilder told = new StringBuilder();
        for (int place = 0; place <= 60 && x.least(letter, place) != FoldedLetters.NONE; place++) {
            told.append(x.least(letter, place));
        }
        checks.same(what, told.toString(), creases);
    }

    final void numbers(String what, int letter, int... due) {
        for (int i = 0; i < due.length; i++) {
            int number = i;
            checks.due(what + ", number " + i, () -> x.letter(letter, number), due[number]);
        }
    }

    final void counts(String what, int... due) {
        for (int i = 0; i < due.length; i++) {
            int number = i;
            checks.due(what + ", count " + i, () -> x.count(number), due[number]);
        }
    }

    final void share(String what, double got, double due) {
        checks.same(what, Double.toString(got), Double.toString(due));
    }

    final void errorAt(String text, int index) {
        fresh();
        type(text);
        checks.due("firstError of " + text, () -> x.firstError(), index);
    }

    final void hasCreases(String text, int creases) {
        fresh();
        type(text);
        checks.due("creases of " + text, () -> x.creases(), creases);
    }

    /** The call saves one state, and undo() brings back all but the buffer. */
    final void undoable(String what, Consumer<FoldedLetters> before, ToLongFunction<FoldedLetters> call) {
        fresh();
        before.accept(x);
        int saved = x.count(6);
        call.applyAsLong(x);
        checks.due(what + " saves a state", () -> x.count(6), saved + 1);
        checks.due(what + " is undone", () -> x.undo(), saved);
        FoldedLetters twin = new FoldedLetters();
        before.accept(twin);
        x.clearBuffer();
        twin.clearBuffer();
        checks.same("all is as before " + what, trail(x), trail(twin));
    }

    /** The call, undoable or not, saves no state and changes nothing. */
    final void leavesAll(String what, Consumer<FoldedLetters> before, ToLongFunction<FoldedLetters> call) {
        FoldedLetters twin = new FoldedLetters();
        before.accept(twin);
        fresh();
        before.accept(x);
        Checks.answer(() -> call.applyAsLong(x));
        checks.same(what + " leaves all as it was", trail(x), trail(twin));
    }

    /**
     * The call throws, and changes nothing: also if 6 states are saved, each unlike the next one.
     * For these the position 3 of letter 4 has to be at home.
     */
    final void refused(String what, String exception, Consumer<FoldedLetters> before,
            ToLongFunction<FoldedLetters> call) {
        refusedOnce(what, exception, before, call);
        refusedOnce(what + ", 6 states saved", exception, y -> {
            before.accept(y);
            for (int i = 0; i < 6; i++) {
                y.seal(4, 3);
            }
        }, call);
    }

    final void refusedOnce(String what, String exception, Consumer<FoldedLetters> before,
            ToLongFunction<FoldedLetters> call) {
        fresh();
        before.accept(x);
        checks.due(what, () -> call.applyAsLong(x), exception);
        leavesAll(what, before, call);
    }

    /** An index just below, just above and far outside is refused; the lowest and highest are not. */
    final void bounds(String what, int lowest, int highest, IndexCall call) {
        bounds(what, OUT_OF_BOUNDS, lowest, highest, call);
    }

    final void bounds(String what, String exception, int lowest, int highest, IndexCall call) {
        for (int index : new int[] {lowest - 1, highest + 1, Integer.MIN_VALUE, Integer.MAX_VALUE}) {
            refused(what + " of " + index, exception, Bench::busy, y -> call.on(y, index));
        }
        for (int index : new int[] {lowest, highest}) {
            fresh();
            busy(x);
            String answer = Checks.answer(() -> call.on(x, index));
            checks.same(what + " of " + index + " answers", "" + !answer.startsWith("throws"), "true");
        }
    }

    /** All that can be seen now, and behind each undo() and a goBack(): so it uses the object up. */
    private static String trail(FoldedLetters y) {
        List<String> told = new ArrayList<>();
        for (int letter = 0; letter < 5; letter++) {
            addLooks(told, y, letter);
        }
        told.add("error " + Checks.answer(() -> y.firstError()));
        told.add("creases " + Checks.answer(() -> y.creases()));
        told.add("state " + Checks.answer(() -> y.digest()));
        for (int i = 0; i < 7; i++) {
            told.add("undo " + Checks.answer(() -> y.undo()));
            told.add("state " + Checks.answer(() -> y.digest()));
        }
        told.add("goBack " + Checks.answer(() -> y.goBack()));
        told.add("state " + Checks.answer(() -> y.digest()));
        told.add("buffer " + Checks.answer(() -> y.clearBuffer()));
        return String.join("; ", told);
    }

    private static void addLooks(List<String> told, FoldedLetters y, int letter) {
        for (int p = 0; p < 4; p++) {
            int position = p;
            told.add(Checks.answer(() -> y.layer(letter, position)));
        }
        for (int n = 0; n <= 10; n++) {
            int what = n;
            told.add(Checks.answer(() -> y.letter(letter, what)));
        }
    }
}
