/** Promises 1 to 9 at their bounds, and the sentences of "Terms" that they rest on. */
public final class FoldBoundariesTest extends Bench {
    /** Turns over the layer at the position of the same index, and leaves all where they lie. */
    private static final String[] TURNED = {"0", "101", "21012", "3210123"};

    public static void main(String[] args) {
        new FoldBoundariesTest().runAll();
    }

    private static boolean touches(int crease, int position) {
        return crease == 0 ? position == 0 : position == crease - 1 || position == crease;
    }

    private static void foldTimes(FoldedLetters y, int letter, int times) {
        foldWord(y, letter, "3".repeat(times));
    }

    // ---- 1: a new object

    void promise1LettersAreFlatWithoutSeals() {
        for (int letter = 0; letter < 5; letter++) {
            isFlat("new letter " + letter, letter);
            numbers("new letter " + letter, letter, 0, 0, 0, 1, 0, 4, 0, 0, 0, 0, 0);
        }
        counts("new", 0, 5, 0, 0, 0, 1, 0);
    }

    void promise1BufferIsEmpty() {
        checks.due("clearBuffer()", () -> x.clearBuffer(), 0);
        checks.due("firstError()", () -> x.firstError(), 0);
        checks.due("append()", () -> x.append('0'), 1);
    }

    void promise1NoSnapshotAndNoSavedState() {
        refused("goBack()", BAD_STATE, y -> { }, y -> y.goBack());
        refusedOnce("undo()", BAD_STATE, y -> { }, y -> y.undo());
    }

    void promise1None() {
        checks.due("NONE", () -> FoldedLetters.NONE, -10);
    }

    void promise1ObjectsAreApart() {
        FoldedLetters other = new FoldedLetters();
        busy(other);
        promise1LettersAreFlatWithoutSeals();
        checks.badState("the other's snapshot", () -> x.goBack());
        checks.due("the other's buffer", () -> x.clearBuffer(), 0);
    }

    void promise1The512thCallHolds() {
        for (int i = 0; i < 255; i++) {
            x.fold(0, 2);
            x.unfold(0);
        }
        checks.due("the 511th call", () -> x.fold(4, 3), 1);
        checks.due("the 512th call", () -> x.count(0), 511);
    }

    // ---- 2: fold

    void promise2Letters() {
        bounds("fold, letter", 0, 4, (y, letter) -> y.fold(letter, 0));
    }

    void promise2Creases() {
        bounds("fold, crease", 0, 3, (y, crease) -> y.fold(1, crease));
    }

    void promise2IndexComesBeforeState() {
        refused("no such crease at 60", OUT_OF_BOUNDS, y -> foldWord(y, 0, SIXTY), y -> y.fold(0, 4));
        refused("a crease below 0 at 60", OUT_OF_BOUNDS, y -> foldWord(y, 0, SIXTY), y -> y.fold(0, -1));
        refused("no such crease at a seal", OUT_OF_BOUNDS, y -> y.seal(0, 3), y -> y.fold(0, 4));
    }

    void promise2SixtyAreRememberedAtMost() {
        foldTimes(x, 0, 58);
        checks.due("the 59th fold", () -> x.fold(0, 3), 1);
        checks.due("the 60th fold", () -> x.fold(0, 3), 0);
        checks.due("60 are remembered", () -> x.letter(0, 2), 60);
        checks.due("another letter", () -> x.fold(1, 3), 1);
        for (int c = 0; c < 4; c++) {
            int crease = c;
            refused("the 61st fold", BAD_STATE, y -> foldWord(y, 0, SIXTY), y -> y.fold(0, crease));
        }
    }

    void promise2RoomAgainAfterSixty() {
        foldWord(0, SIXTY);
        x.unfold(0);
        checks.due("after unfold()", () -> x.letter(0, 2), 59);
        checks.due("the 60th fold again", () -> x.fold(0, 2), 0);
        checks.badState("and no more", () -> x.fold(0, 2));
        x.press(0);
        checks.due("after press()", () -> x.fold(0, 2), 1);
    }

    void promise2SealedPositionsAreNotTouched() {
        for (int c = 0; c < 4; c++) {
            for (int p = 0; p < 4; p++) {
                sealStops(c, p);
            }
        }
    }

    private void sealStops(int crease, int position) {
        String what = "crease " + crease + ", sealed " + position;
        if (touches(crease, position)) {
            refused(what, BAD_STATE, y -> y.seal(0, position), y -> y.fold(0, crease));
        }
        fresh();
        x.seal(0, position);
        checks.due(what, () -> x.fold(0, crease), touches(crease, position) ? BAD_STATE : "1");
        checks.due(what + " of another letter", () -> x.fold(1, crease), 1);
        x.smooth(0);
        x.seal(0, position);
        x.seal(0, position);
        checks.due(what + ", taken off", () -> x.fold(0, crease), 1);
    }

    void promise2TwiceIsAsNever() {
        String[] once = {"-1 2 3 4", "2 1 3 4", "1 3 2 4", "1 2 4 3"};
        for (int c = 0; c < 4; c++) {
            int crease = c;
            String[] layers = once[c].split(" ");
            checks.due("folded by " + c, () -> x.fold(0, crease), 1);
            for (int p = 0; p < 4; p++) {
                int position = p;
                checks.due("position " + p, () -> x.layer(0, position), layers[p]);
            }
            checks.due("folded by " + c + " again", () -> x.fold(0, crease), 0);
            isFlat("folded by " + c + " again", 0);
        }
    }

    void promise2LayersChangePlacesWithTheirSides() {
        foldBy(0, "01");
        lies("the upper one is turned over", 0, 2, -1, 3, 4);
        foldBy(0, "0");
        lies("both are", 0, -2, -1, 3, 4);
        checks.due("both, changed", () -> x.fold(0, 1), 4);
        lies("both, changed", 0, -1, -2, 3, 4);
    }

    void promise2ShortestAndLongest() {
        for (int c = 0; c < 4; c++) {
            int crease = c;
            checks.due("from the flat one", () -> x.fold(0, crease), 1);
            x.undo();
        }
        foldWord(0, LONGEST);
        lies("the longest", 0, -1, -2, -3, -4);
        for (int c = 0; c < 4; c++) {
            int crease = c;
            checks.due("from the longest", () -> x.fold(0, crease), 15);
            x.undo();
        }
    }

    void promise2Undoable() {
        undoable("fold()", Bench::busy, y -> y.fold(1, 2));
    }

    // ---- 3: word

    void promise3Letters() {
        bounds("word, letter", 0, 4, (y, letter) -> y.word(letter));
    }

    void promise3NotACompleteWord() {
        String[] texts = {"", "(", "(0", "(0)", "4", "/", ")", "()", "0)", "(0)1", "(0)0", "(0):", "((((((",
            "(0)2(", "0x", "x0", "(0)2)2"};
        for (String text : texts) {
            refused("word of " + text, BAD_ARGUMENT, y -> type(y, text), y -> y.word(0));
            refused("word of " + text + " of no letter", OUT_OF_BOUNDS, y -> type(y, text), y -> y.word(5));
            refused("word of " + text + " of none", OUT_OF_BOUNDS, y -> type(y, text), y -> y.word(-1));
        }
    }

    void promise3ArgumentComesBeforeWhatCanNotBeDone() {
        refused("no word at 60", BAD_ARGUMENT, y -> foldWord(y, 0, SIXTY), y -> y.word(0));
    }

    private void wordAfter(int before, int done) {
        fresh();
        foldTimes(x, 0, before);
        type("012");
        checks.due("3 folds behind " + before, () -> x.word(0), done);
        checks.due("then remembered", () -> x.letter(0, 2), before + done);
        checks.due("then counted", () -> x.letter(0, 10), before + done);
    }

    void promise3UpToSixty() {
        wordAfter(56, 3);
        wordAfter(57, 3);
        wordAfter(58, 2);
        wordAfter(59, 1);
        wordAfter(60, 0);
    }

    private void wordAtSeal(String text, int position, String done) {
        fresh();
        x.seal(0, position);
        type(text);
        checks.due("word of " + text + " at a seal", () -> x.word(0), done.length());
        remembers("what is done of " + text, 0, done);
    }

    void promise3UpToASealedPosition() {
        wordAtSeal("012", 3, "012");
        wordAtSeal("0123", 3, "012");
        wordAtSeal("01230", 3, "012");
        wordAtSeal("30", 3, "");
        wordAtSeal("(23)4", 0, "23232323");
        wordAtSeal("(231)4", 0, "23");
        wordAtSeal("30", 0, "3");
        wordAtSeal("0(3)91", 1, "0333333333");
    }

    void promise3UndoableAlsoIfNoneIsDone() {
        undoable("word()", Bench::busy, y -> y.word(0));
        undoable("word() at 60", y -> {
            foldWord(y, 0, SIXTY);
            type(y, "0");
        }, y -> y.word(0));
        undoable("word() at a seal", y -> {
            y.seal(0, 0);
            type(y, "1");
        }, y -> y.word(0));
    }

    void promise3ClearsTheBuffer() {
        foldWord(0, "0");
        checks.due("done", () -> x.clearBuffer(), 0);
        x.seal(1, 0);
        type("0");
        checks.due("none is done", () -> x.word(1), 0);
        checks.due("cleared all the same", () -> x.append('0'), 1);
        x.undo();
        checks.due("not brought back", () -> x.clearBuffer(), 1);
    }

    void promise3OneUndoForAllFolds() {
        foldWord(0, "0123");
        checks.due("undo()", () -> x.undo(), 0);
        isFlat("none is done", 0);
        checks.due("none is counted", () -> x.letter(0, 10), 0);
    }

    void promise3ShortestAndLongestText() {
        type("2");
        checks.due("one crease", () -> x.word(0), 1);
        type("2".repeat(60));
        checks.due("60 creases", () -> x.word(1), 60);
        type("(((((01" + "2".repeat(43) + ")9)9)9)9)9");
        checks.due("2657205 creases", () -> x.word(2), 60);
        remembers("the first 60 of them", 2, "01" + "2".repeat(43) + "01" + "2".repeat(13));
    }

    void promise3Repeats() {
        foldWord(0, "(01)2");
        remembers("twice", 0, "0101");
        foldWord(1, "(01)9");
        remembers("9 times", 1, "01".repeat(9));
        foldWord(2, "(((((0)21)22)23)21)2");
        String inner = "001001200100123";
        remembers("brackets in brackets", 2, (inner + inner + "1").repeat(2).substring(0, 60));
        String third = "3011011";
        String second = "2" + third + third;
        foldWord(4, "0(1(2(3(0(1)2)2)2)2)2");
        remembers("brackets behind items", 4, "0" + ("1" + second + second).repeat(2).substring(0, 59));
        foldWord(3, "(01)2(23)2");
        remembers("one behind the other", 3, "01012323");
    }

    // ---- 4: unfold

    void promise4Letters() {
        bounds("unfold, letter", 0, 4, (y, letter) -> y.unfold(letter));
    }

    void promise4NoFoldIsRemembered() {
        refused("at first", BAD_STATE, y -> { }, y -> y.unfold(0));
        refused("all taken back", BAD_STATE, y -> {
            y.fold(0, 3);
            y.unfold(0);
        }, y -> y.unfold(0));
        refused("smooth", BAD_STATE, y -> {
            y.fold(0, 3);
            y.smooth(0);
        }, y -> y.unfold(0));
        refused("pressed to nothing", BAD_STATE, y -> {
            foldBy(y, 0, "33");
            y.press(0);
        }, y -> y.unfold(0));
        refused("a product without folds", BAD_STATE, y -> {
            y.fold(0, 3);
            y.product(0, 0, 0);
        }, y -> y.unfold(0));
        refused("an opposite without folds", BAD_STATE, y -> {
            y.fold(0, 3);
            y.opposite(0, 1);
        }, y -> y.unfold(0));
    }

    void promise4DownToNone() {
        foldBy(0, "23");
        checks.due("two are remembered", () -> x.unfold(0), 3);
        checks.due("one is remembered", () -> x.unfold(0), 2);
        checks.badState("none is remembered", () -> x.unfold(0));
        isFlat("folded back", 0);
        checks.due("each one counts", () -> x.letter(0, 10), 4);
    }

    void promise4SealedPositionsAreNotTouched() {
        for (int c = 0; c < 4; c++) {
            for (int p = 0; p < 4; p++) {
                sealStopsUnfold(c, p);
            }
        }
    }

    private void sealStopsUnfold(int crease, int position) {
        String what = "crease " + crease + ", sealed " + position;
        if (touches(crease, position)) {
            refused(what, BAD_STATE, y -> {
                foldBy(y, 0, "" + crease + crease);
                y.seal(0, position);
            }, y -> y.unfold(0));
        }
        fresh();
        foldBy(0, "" + crease + crease);
        x.seal(0, position);
        String due = touches(crease, position) ? BAD_STATE : "" + crease;
        checks.due(what, () -> x.unfold(0), due);
        x.seal(0, position);
        checks.due(what + ", taken off", () -> x.unfold(0), crease);
    }

    void promise4OfSixty() {
        foldWord(0, SIXTY);
        checks.due("unfold() of 60", () -> x.unfold(0), 2);
        checks.due("59 are left", () -> x.letter(0, 2), 59);
        checks.due("the 60th is remembered no more", () -> x.crease(0, 59), -10);
        checks.due("it counts as well", () -> x.letter(0, 10), 61);
    }

    void promise4OfWhatIsPressed() {
        foldBy(0, "31");
        x.press(0);
        checks.due("the latest one of the least word", () -> x.unfold(0), 3);
        lies("one is left", 0, 2, 1, 3, 4);
    }

    void promise4Undoable() {
        undoable("unfold()", Bench::busy, y -> y.unfold(0));
    }

    // ---- 5: press

    void promise5Letters() {
        bounds("press, letter", 0, 4, (y, letter) -> y.press(letter));
    }

    void promise5OfAFlatOne() {
        checks.due("without folds", () -> x.press(0), 0);
        checks.due("undoable all the same", () -> x.count(6), 1);
        foldBy(0, "33");
        checks.due("with folds", () -> x.press(0), 2);
        checks.due("none is left", () -> x.letter(0, 2), 0);
    }

    void promise5OfSixty() {
        foldWord(0, SIXTY);
        checks.due("of a flat one", () -> x.press(0), 60);
        foldWord(1, "(0123)4(3)9(3)9(3)9(3)9(3)8");
        checks.due("60 are remembered", () -> x.letter(1, 2), 60);
        checks.due("of the longest", () -> x.press(1), 44);
        lies("the longest", 1, -1, -2, -3, -4);
        checks.due("folded again", () -> x.fold(1, 0), 15);
    }

    void promise5NoneFewerButOthers() {
        foldWord(0, LONGEST);
        checks.due("as short as can be", () -> x.press(0), 0);
        remembers("but not the least one before", 0, "0101210123210123");
        checks.due("the least one", () -> x.press(0), 0);
        remembers("stays", 0, "0101210123210123");
    }

    void promise5SealsStay() {
        foldBy(0, "01300310");
        isFlat("there and back", 0);
        for (int position = 0; position < 4; position++) {
            x.seal(0, position);
        }
        checks.due("all sealed", () -> x.press(0), 8);
        checks.due("seals stay", () -> x.letter(0, 7), 15);
        checks.due("folds so far stay", () -> x.letter(0, 10), 8);
    }

    void promise5Undoable() {
        undoable("press()", Bench::busy, y -> y.press(4));
        undoable("press() of a flat one", y -> { }, y -> y.press(4));
    }

    // ---- 6: smooth

    void promise6Letters() {
        bounds("smooth, letter", 0, 4, (y, letter) -> y.smooth(letter));
    }

    void promise6LengthBefore() {
        checks.due("of a flat one", () -> x.smooth(0), 0);
        foldBy(0, "3");
        checks.due("of the length 1", () -> x.smooth(0), 1);
        foldWord(0, LONGEST);
        checks.due("of the longest", () -> x.smooth(0), 16);
        isFlat("smooth", 0);
    }

    void promise6OfSixtyAndAllSeals() {
        foldWord(0, SIXTY);
        for (int position = 0; position < 4; position++) {
            x.seal(0, position);
        }
        x.seal(1, 2);
        checks.due("flat all the same", () -> x.smooth(0), 0);
        numbers("smooth", 0, 0, 0, 0, 1, 0, 4, 0, 0, 0, 0, 60);
        checks.due("the other's seal stays", () -> x.letter(1, 7), 4);
    }

    void promise6Undoable() {
        undoable("smooth()", Bench::busy, y -> y.smooth(0));
        undoable("smooth() of a flat one", y -> { }, y -> y.smooth(0));
    }

    // ---- 7: product

    void promise7Letters() {
        bounds("product, letter", 0, 4, (y, letter) -> y.product(letter, 0, 1));
        bounds("product, first", 0, 4, (y, first) -> y.product(0, first, 1));
        bounds("product, second", 0, 4, (y, second) -> y.product(0, 1, second));
    }

    void promise7ShortestAndLongest() {
        foldWord(0, LONGEST);
        checks.due("of flat ones", () -> x.product(4, 1, 2), 0);
        remembers("of flat ones", 4, "");
        checks.due("the longest first", () -> x.product(4, 0, 1), 16);
        checks.due("the longest second", () -> x.product(4, 1, 0), 16);
        remembers("the longest", 4, "0101210123210123");
        checks.due("the longest twice", () -> x.product(4, 0, 0), 0);
        isFlat("the longest twice", 4);
        foldBy(1, "2");
        checks.due("the longest and one crease", () -> x.product(4, 0, 1), 15);
    }

    void promise7FirstAndThenSecond() {
        foldBy(0, "0");
        foldBy(1, "1");
        checks.due("0 and then 1", () -> x.product(2, 0, 1), 2);
        lies("0 and then 1", 2, 2, -1, 3, 4);
        checks.due("1 and then 0", () -> x.product(2, 1, 0), 2);
        lies("1 and then 0", 2, -2, 1, 3, 4);
    }

    void promise7InPlaceOfItsParts() {
        foldBy(0, "0");
        foldBy(1, "1");
        x.product(0, 0, 1);
        remembers("of the first one", 0, "01");
        x.product(1, 0, 1);
        remembers("of the second one", 1, "0");
        x.product(0, 0, 0);
        remembers("of both", 0, "0101");
    }

    void promise7SealsAndFolds() {
        foldWord(0, SIXTY);
        foldWord(1, SIXTY);
        x.seal(0, 0);
        x.seal(1, 1);
        x.seal(2, 2);
        checks.due("of 60 folds", () -> x.product(0, 1, 2), 0);
        numbers("made", 0, 0, 0, 0, 1, 0, 4, 0, 0, 0, 0, 60);
        checks.due("the first one's seal stays", () -> x.letter(1, 7), 2);
        checks.due("the second one's seal stays", () -> x.letter(2, 7), 4);
        checks.due("the first one's folds stay", () -> x.letter(1, 2), 60);
    }

    void promise7Undoable() {
        undoable("product()", Bench::busy, y -> y.product(0, 0, 1));
        undoable("product() of flat ones", y -> { }, y -> y.product(0, 0, 0));
    }

    // ---- 8: opposite

    void promise8Letters() {
        bounds("opposite, letter", 0, 4, (y, letter) -> y.opposite(letter, 1));
        bounds("opposite, other", 0, 4, (y, other) -> y.opposite(1, other));
    }

    void promise8ShortestAndLongest() {
        checks.due("of a flat one", () -> x.opposite(0, 1), 0);
        isFlat("of a flat one", 0);
        foldWord(1, LONGEST);
        checks.due("of the longest", () -> x.opposite(0, 1), 16);
        lies("of the longest", 0, -1, -2, -3, -4);
    }

    void promise8OfItself() {
        foldBy(0, "012");
        checks.due("of itself", () -> x.opposite(0, 0), 3);
        remembers("of itself", 0, "210");
        lies("of itself", 0, -3, 1, 2, 4);
        checks.due("and again", () -> x.opposite(0, 0), 3);
        remembers("and again", 0, "012");
    }

    void promise8ProductIsFlat() {
        foldBy(0, "0121");
        x.opposite(1, 0);
        checks.due("behind it", () -> x.product(2, 0, 1), 0);
        checks.due("ahead of it", () -> x.product(2, 1, 0), 0);
    }

    void promise8SealsAndFolds() {
        foldWord(0, SIXTY);
        x.seal(0, 0);
        x.seal(1, 1);
        checks.due("of a flat one", () -> x.opposite(0, 1), 0);
        numbers("made", 0, 0, 0, 0, 1, 0, 4, 0, 0, 0, 0, 60);
        checks.due("the other's seal stays", () -> x.letter(1, 7), 2);
    }

    void promise8Undoable() {
        undoable("opposite()", Bench::busy, y -> y.opposite(0, 1));
        undoable("opposite() of a flat one", y -> { }, y -> y.opposite(0, 0));
    }

    // ---- 9: seal

    void promise9Letters() {
        bounds("seal, letter", 0, 4, (y, letter) -> y.seal(letter, 3));
    }

    void promise9Positions() {
        bounds("seal, position", 0, 3, (y, position) -> y.seal(1, position));
    }

    void promise9OwnLayerTurnedOver() {
        for (int p = 0; p < 4; p++) {
            int position = p;
            refused("turned over at " + p, BAD_STATE, y -> foldBy(y, 0, TURNED[position]), y -> y.seal(0, position));
            fresh();
            foldBy(0, TURNED[p]);
            checks.due("turned over", () -> x.layer(0, position), -1 - position);
            sealOthers(position);
        }
    }

    private void sealOthers(int turned) {
        int sealed = 0;
        for (int p = 0; p < 4; p++) {
            int position = p;
            if (position != turned) {
                sealed++;
                checks.due("at home at " + p, () -> x.seal(0, position), sealed);
            }
        }
    }

    void promise9AnotherLayer() {
        for (int c = 1; c < 4; c++) {
            int crease = c;
            refused("the one below", BAD_STATE, y -> y.fold(0, crease), y -> y.seal(0, crease - 1));
            refused("the one above", BAD_STATE, y -> y.fold(0, crease), y -> y.seal(0, crease));
        }
        refused("another one turned over", BAD_STATE, y -> foldBy(y, 0, "10"), y -> y.seal(0, 0));
    }

    void promise9NoneToAllSealed() {
        for (int p = 0; p < 4; p++) {
            int position = p;
            checks.due("sealed", () -> x.seal(0, position), position + 1);
        }
        checks.due("all of them", () -> x.letter(0, 7), 15);
        for (int p = 0; p < 4; p++) {
            int position = p;
            checks.due("taken off", () -> x.seal(0, position), 3 - position);
        }
        checks.due("none of them", () -> x.letter(0, 7), 0);
    }

    void promise9OfSixty() {
        foldWord(0, SIXTY);
        checks.due("sealed", () -> x.seal(0, 2), 1);
        checks.due("taken off", () -> x.seal(0, 2), 0);
    }

    void promise9Undoable() {
        undoable("seal()", Bench::busy, y -> y.seal(1, 0));
        undoable("seal() that takes one off", Bench::busy, y -> y.seal(0, 3));
    }
}
