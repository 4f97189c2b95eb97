import java.util.List;
import java.util.function.ToLongFunction;

/** Promises 14 to 16 at their bounds, and the sentences of "Undo" that they rest on. */
public final class StateBoundariesTest extends Bench {
    public static void main(String[] args) {
        new StateBoundariesTest().runAll();
    }

    private static void allLongest(FoldedLetters y) {
        for (int letter = 0; letter < 5; letter++) {
            foldWord(y, letter, LONGEST);
        }
    }

    // ---- 14: keep

    void promise14ShortestAndLongest() {
        checks.due("of flat letters", () -> x.keep(), 0);
        allLongest(x);
        checks.due("of the longest ones", () -> x.keep(), 80);
    }

    void promise14SavesNoState() {
        foldBy(0, "0");
        x.keep();
        checks.due("not undoable", () -> x.count(6), 1);
        x.undo();
        checks.due("the snapshot stays behind undo()", () -> x.goBack(), 1);
        remembers("as it was kept", 0, "0");
    }

    void promise14InPlaceOfTheOneThatWas() {
        foldBy(0, "0");
        x.keep();
        foldBy(0, "12");
        checks.due("kept again", () -> x.keep(), 3);
        x.smooth(0);
        checks.due("the later one", () -> x.goBack(), 3);
        remembers("the later one", 0, "012");
        x.smooth(0);
        x.keep();
        foldBy(0, "3");
        checks.due("a shorter one", () -> x.goBack(), 0);
        remembers("a shorter one", 0, "");
    }

    void promise14KeepsAllOfALetter() {
        foldWord(2, SIXTY);
        x.seal(2, 1);
        x.seal(2, 3);
        x.keep();
        x.smooth(2);
        foldBy(2, "01");
        x.goBack();
        numbers("as it was kept", 2, 0, 0, 60, 1, 0, 4, 0, 10, 0, 15, 60);
        remembers("as it was kept", 2, "12".repeat(30));
        checks.due("counted as it was kept", () -> x.count(0), 60);
    }

    void promise14NotTheBuffer() {
        type("01");
        x.keep();
        type("2");
        x.goBack();
        checks.due("the buffer stays", () -> x.clearBuffer(), 3);
    }

    void promise14NotTheSavedStates() {
        foldBy(0, "01");
        x.keep();
        foldBy(0, "23");
        x.goBack();
        checks.due("saved states", () -> x.count(6), 5);
    }

    // ---- 15: goBack

    void promise15WithoutSnapshot() {
        refused("at first", BAD_STATE, y -> { }, y -> y.goBack());
        refused("with saved states", BAD_STATE, y -> {
            y.fold(0, 0);
            y.fold(0, 1);
            y.undo();
        }, y -> y.goBack());
    }

    void promise15SnapshotStays() {
        foldBy(0, "0");
        x.keep();
        for (int i = 0; i < 8; i++) {
            foldBy(0, "12");
            checks.due("goBack()", () -> x.goBack(), 1);
            remembers("goBack()", 0, "0");
        }
    }

    void promise15LengthsThen() {
        x.keep();
        allLongest(x);
        checks.due("flat ones", () -> x.goBack(), 0);
        x.undo();
        checks.due("kept", () -> x.keep(), 80);
        x.smooth(0);
        checks.due("the longest ones", () -> x.goBack(), 80);
    }

    void promise15Undoable() {
        undoable("goBack()", Bench::busy, y -> y.goBack());
        undoable("goBack() to what is", y -> y.keep(), y -> y.goBack());
    }

    void promise15WithSixSavedStates() {
        x.keep();
        foldBy(0, "012301");
        checks.due("6 are saved", () -> x.count(6), 6);
        checks.due("goBack()", () -> x.goBack(), 0);
        checks.due("the oldest one is dropped", () -> x.count(6), 6);
        for (int left = 5; left >= 0; left--) {
            int due = left;
            checks.due("undo()", () -> x.undo(), due);
        }
        remembers("the oldest one that is left", 0, "0");
    }

    // ---- 16: undo

    void promise16NoneIsSaved() {
        refusedOnce("at first", BAD_STATE, y -> { }, y -> y.undo());
        refusedOnce("all undone", BAD_STATE, y -> {
            y.keep();
            y.fold(0, 0);
            y.undo();
        }, y -> y.undo());
        refusedOnce("more than 6 undone", BAD_STATE, y -> {
            foldBy(y, 0, "01230123");
            for (int i = 0; i < 6; i++) {
                y.undo();
            }
        }, y -> y.undo());
        refusedOnce("nothing undoable was called", BAD_STATE, y -> {
            type(y, "0");
            y.keep();
            y.clearBuffer();
        }, y -> y.undo());
    }

    /** Of 5, 6 and 7 folds, how many can be undone, and what is left. */
    private void undoneOf(String creases, int saved, String left) {
        fresh();
        foldBy(0, creases);
        checks.due("saved by " + creases, () -> x.count(6), saved);
        for (int i = saved - 1; i >= 0; i--) {
            int due = i;
            checks.due("undo() of " + creases, () -> x.undo(), due);
        }
        checks.badState("no more of " + creases, () -> x.undo());
        remembers("left of " + creases, 0, left);
    }

    void promise16SixAtMost() {
        undoneOf("0", 1, "");
        undoneOf("01230", 5, "");
        undoneOf("012301", 6, "");
        undoneOf("0123012", 6, "0");
        undoneOf("012301230123012", 6, "012301230");
    }

    void promise16RestoresTheLatest() {
        foldBy(0, "01230123");
        for (int length = 7; length >= 2; length--) {
            x.undo();
            remembers("undone to " + length, 0, "01230123".substring(0, length));
        }
        foldBy(0, "33");
        checks.due("saved again", () -> x.undo(), 1);
        remembers("undone again", 0, "013");
    }

    void promise16IsNotUndoable() {
        foldBy(0, "01");
        x.undo();
        checks.due("one is left", () -> x.count(6), 1);
        x.undo();
        checks.badState("it does not save", () -> x.undo());
        isFlat("all is undone", 0);
    }

    void promise16CallsThatChangeNothingSave() {
        List<ToLongFunction<FoldedLetters>> calls = List.of(y -> y.word(1), y -> y.press(0), y -> y.smooth(0),
            y -> y.product(0, 0, 0), y -> y.opposite(0, 0), y -> y.goBack());
        for (int i = 0; i < calls.size(); i++) {
            undoable("call " + i + ", that changes nothing", y -> {
                y.seal(1, 0);
                y.keep();
                type(y, "0");
            }, calls.get(i));
        }
    }

    void promise16OtherCallsDoNotSave() {
        foldBy(0, "01");
        type("0");
        x.firstError();
        x.creases();
        x.clearBuffer();
        x.keep();
        x.layer(0, 0);
        x.letter(0, 3);
        x.crease(0, 0);
        x.least(0, 0);
        x.why(0, 0);
        x.ifFolded(0, 0);
        x.distance(0, 1);
        x.nearest(0);
        x.ways(3, 1);
        x.pressed();
        x.meanLength();
        x.digest();
        checks.due("saved by folds alone", () -> x.count(6), 2);
    }

    void promise16RefusedCallsDoNotSave() {
        x.keep();
        x.seal(0, 0);
        checks.badState("fold", () -> x.fold(0, 0));
        checks.badArgument("word", () -> x.word(0));
        checks.badState("unfold", () -> x.unfold(0));
        checks.outOfBounds("press", () -> x.press(5));
        checks.outOfBounds("smooth", () -> x.smooth(5));
        checks.outOfBounds("product", () -> x.product(0, 0, 5));
        checks.outOfBounds("opposite", () -> x.opposite(0, 5));
        checks.outOfBounds("seal", () -> x.seal(0, 4));
        checks.due("saved by seal() alone", () -> x.undo(), 0);
        checks.due("unsealed", () -> x.letter(0, 7), 0);
    }

    void promise16RestoresWhatIsCounted() {
        foldBy(0, "01");
        foldWord(1, "(2)3");
        x.unfold(1);
        counts("counted", 6, 4, 0, 2, 0, 2, 4);
        x.undo();
        checks.due("without unfold()", () -> x.letter(1, 10), 3);
        checks.due("without unfold(), all", () -> x.count(0), 5);
        x.undo();
        checks.due("without word()", () -> x.letter(1, 10), 0);
        checks.due("without word(), all", () -> x.count(0), 2);
        x.undo();
        checks.due("without a fold()", () -> x.letter(0, 10), 1);
    }

    void promise16RestoresAllOfALetter() {
        foldWord(3, SIXTY);
        x.seal(3, 0);
        x.seal(3, 2);
        x.smooth(3);
        checks.due("undo()", () -> x.undo(), 3);
        numbers("as it was", 3, 0, 0, 60, 1, 0, 4, 0, 5, 0, 15, 60);
        remembers("as it was", 3, "12".repeat(30));
    }

    void promise16LeavesBufferAndSnapshot() {
        foldBy(0, "0");
        x.keep();
        type("01");
        foldBy(0, "12");
        x.undo();
        x.undo();
        x.undo();
        checks.due("the buffer stays", () -> x.clearBuffer(), 2);
        checks.due("the snapshot stays", () -> x.goBack(), 1);
        checks.due("goBack() saved one", () -> x.undo(), 0);
        isFlat("before it went back", 0);
    }

    void promise16LettersTogether() {
        foldBy(0, "0");
        foldBy(4, "3");
        x.product(2, 0, 4);
        x.undo();
        isFlat("the latest one", 2);
        remembers("the ones before stay", 4, "3");
        x.undo();
        isFlat("undone", 4);
        remembers("the first one stays", 0, "0");
    }
}
