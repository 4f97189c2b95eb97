/** One method or more for each promise of the document, bearing its number. */
public final class PromisesTest extends Bench {
    public static void main(String[] args) {
        new PromisesTest().runAll();
    }

    private void changesNothing(String what, Runnable call) {
        long before = x.digest();
        try {
            call.run();
        } catch (RuntimeException thrown) {
            checks.due(what + " changes nothing", () -> x.digest(), before);
            return;
        }
        checks.same(what, "throws nothing", "throws");
    }

    void promise1() {
        fresh();
        for (int letter = 0; letter < 5; letter++) {
            lies("new letter", letter, 1, 2, 3, 4);
            int l = letter;
            checks.due("new folds", () -> x.letter(l, 2), 0);
            checks.due("new seals", () -> x.letter(l, 7), 0);
            checks.due("new counter", () -> x.letter(l, 10), 0);
        }
        checks.due("new buffer", () -> x.clearBuffer(), 0);
        checks.badState("no snapshot", () -> x.goBack());
        checks.badState("no saved state", () -> x.undo());
        checks.due("NONE", () -> FoldedLetters.NONE, -10);
    }

    void promise2() {
        fresh();
        checks.due("fold(0, 0)", () -> x.fold(0, 0), 1);
        lies("turned over", 0, -1, 2, 3, 4);
        checks.due("fold(0, 1)", () -> x.fold(0, 1), 2);
        lies("changed with its side", 0, 2, -1, 3, 4);
        checks.due("fold(0, 2)", () -> x.fold(0, 2), 3);
        checks.due("fold(0, 3)", () -> x.fold(0, 3), 4);
        lies("down to the last", 0, 2, 3, 4, -1);
        checks.due("fold(0, 3) again", () -> x.fold(0, 3), 3);
        remembers("folds in their order", 0, "01233");
        lies("the others", 1, 1, 2, 3, 4);
        checks.outOfBounds("fold(-1, 0)", () -> x.fold(-1, 0));
        checks.outOfBounds("fold(5, 0)", () -> x.fold(5, 0));
        checks.outOfBounds("fold(0, -1)", () -> x.fold(0, -1));
        checks.outOfBounds("fold(0, 4)", () -> x.fold(0, 4));
        checks.outOfBounds("fold(min, max)", () -> x.fold(Integer.MIN_VALUE, Integer.MAX_VALUE));
        for (int i = 5; i < 60; i++) {
            x.fold(0, 0);
        }
        changesNothing("the 61st fold", () -> x.fold(0, 1));
        checks.badState("the 61st fold", () -> x.fold(0, 1));
        checks.outOfBounds("the first exception named", () -> x.fold(0, 4));
        x.seal(1, 2);
        checks.badState("sealed above", () -> x.fold(1, 3));
        checks.badState("sealed below", () -> x.fold(1, 2));
        checks.due("not sealed", () -> x.fold(1, 1), 1);
        checks.due("not sealed either", () -> x.fold(1, 0), 2);
    }

    void promise3() {
        fresh();
        type("(01)23");
        checks.due("word(2)", () -> x.word(2), 5);
        remembers("the word", 2, "01013");
        checks.due("its folds so far", () -> x.letter(2, 10), 5);
        checks.due("the buffer is cleared", () -> x.clearBuffer(), 0);
        checks.due("one state is saved", () -> x.count(6), 1);
        changesNothing("word of an empty buffer", () -> x.word(2));
        checks.badArgument("word of an empty buffer", () -> x.word(2));
        for (String text : new String[] {"(", "(0", "(0)", "4", "(0)1", "0)", "()2", "0x", ")"}) {
            x.clearBuffer();
            type(text);
            changesNothing("word of " + text, () -> x.word(0));
            checks.badArgument("word of " + text, () -> x.word(0));
            checks.outOfBounds("the first exception named", () -> x.word(5));
        }
        x.clearBuffer();
        type("0");
        checks.outOfBounds("word(-1)", () -> x.word(-1));
        checks.outOfBounds("word(5)", () -> x.word(5));
        checks.due("the buffer stays", () -> x.clearBuffer(), 1);
    }

    void promise3Limits() {
        fresh();
        x.seal(1, 3);
        type("0132");
        checks.due("up to the sealed one", () -> x.word(1), 2);
        remembers("what is done", 1, "01");
        type("3");
        int saved = x.count(6);
        checks.due("none is done", () -> x.word(1), 0);
        checks.due("undoable all the same", () -> x.count(6), saved + 1);
        checks.due("cleared all the same", () -> x.clearBuffer(), 0);
        type("((((01)9)9)9)9");
        checks.due("up to 60", () -> x.word(0), 60);
        checks.due("60 remembered", () -> x.letter(0, 2), 60);
        type("2");
        checks.due("none beyond", () -> x.word(0), 0);
        x.smooth(0);
        foldBy(0, "21");
        type("(3(0)2)91(23)9(01)90");
        checks.due("the last of many", () -> x.word(0), 58);
        remembers("each in its order", 0,
            "21" + "300".repeat(9) + "1" + "23".repeat(9) + "01".repeat(6));
    }

    void promise4() {
        fresh();
        foldBy(0, "012");
        checks.due("unfold(0)", () -> x.unfold(0), 2);
        lies("unfolded", 0, 2, -1, 3, 4);
        remembers("less by one", 0, "01");
        checks.due("it counts", () -> x.letter(0, 10), 4);
        checks.due("undo()", () -> x.undo(), 3);
        remembers("undone", 0, "012");
        x.unfold(0);
        x.unfold(0);
        x.unfold(0);
        changesNothing("unfold without folds", () -> x.unfold(0));
        checks.badState("unfold without folds", () -> x.unfold(0));
        checks.outOfBounds("unfold(-1)", () -> x.unfold(-1));
        checks.outOfBounds("unfold(5)", () -> x.unfold(5));
        foldBy(1, "1331");
        x.seal(1, 1);
        changesNothing("unfold at a seal", () -> x.unfold(1));
        checks.badState("unfold at a seal", () -> x.unfold(1));
        foldBy(1, "3");
        checks.due("beside the seal", () -> x.unfold(1), 3);
        type("(0)9(0)9(0)9(0)9(0)9(0)9(0)7");
        x.word(2);
        checks.due("unfold of 60", () -> x.unfold(2), 0);
        checks.due("59 are left", () -> x.letter(2, 2), 59);
    }

    void promise5() {
        fresh();
        foldBy(0, "31001");
        checks.due("press(0)", () -> x.press(0), 4);
        remembers("the least word", 0, "3");
        lies("it lies as it did", 0, 1, 2, 4, 3);
        checks.due("folds so far stay", () -> x.letter(0, 10), 5);
        checks.due("press(0) again", () -> x.press(0), 0);
        checks.due("undoable", () -> x.count(6), 6);
        foldBy(1, "2331213");
        x.press(1);
        remembers("the first of several", 1, "123");
        foldBy(2, "31");
        x.press(2);
        remembers("13 comes before 31", 2, "13");
        foldBy(3, "11");
        x.seal(3, 0);
        x.press(3);
        checks.due("seals stay", () -> x.letter(3, 7), 1);
        checks.outOfBounds("press(-1)", () -> x.press(-1));
        checks.outOfBounds("press(5)", () -> x.press(5));
    }

    void promise6() {
        fresh();
        foldBy(0, "012");
        x.seal(0, 3);
        checks.due("smooth(0)", () -> x.smooth(0), 3);
        lies("flat", 0, 1, 2, 3, 4);
        remembers("without folds", 0, "");
        checks.due("without seals", () -> x.letter(0, 7), 0);
        checks.due("folds so far stay", () -> x.letter(0, 10), 3);
        checks.due("undo()", () -> x.undo(), 4);
        checks.due("undone", () -> x.letter(0, 7), 8);
        checks.due("smooth of a flat one", () -> x.smooth(1), 0);
        checks.due("undoable all the same", () -> x.count(6), 5);
        checks.outOfBounds("smooth(-1)", () -> x.smooth(-1));
        checks.outOfBounds("smooth(5)", () -> x.smooth(5));
    }

    void promise7() {
        fresh();
        foldBy(0, "01");
        foldBy(1, "1233");
        x.seal(2, 3);
        foldBy(2, "0");
        checks.due("product(2, 0, 1)", () -> x.product(2, 0, 1), 2);
        lies("product", 2, -1, 3, 2, 4);
        remembers("its least word", 2, "02");
        fresh();
        foldBy(0, "012");
        foldBy(1, "301");
        x.seal(2, 3);
        foldBy(2, "0");
        checks.due("product(2, 0, 1)", () -> x.product(2, 0, 1), 6);
        lies("the second one's word behind the first one's", 2, 3, -2, 4, -1);
        remembers("its least word", 2, "010213");
        checks.due("no seals", () -> x.letter(2, 7), 0);
        checks.due("folds so far stay", () -> x.letter(2, 10), 1);
        checks.due("undoable", () -> x.count(6), 6);
        checks.due("of itself", () -> x.product(0, 0, 0), 6);
        lies("of itself", 0, 3, -1, -2, 4);
        checks.due("product(1, 1, 0)", () -> x.product(1, 1, 0), 5);
        lies("in place of its first one", 1, 4, -2, 1, 3);
        checks.outOfBounds("product(-1, 0, 0)", () -> x.product(-1, 0, 0));
        checks.outOfBounds("product(0, -1, 0)", () -> x.product(0, -1, 0));
        checks.outOfBounds("product(0, 0, -1)", () -> x.product(0, 0, -1));
        checks.outOfBounds("product(5, 0, 0)", () -> x.product(5, 0, 0));
        checks.outOfBounds("product(0, 5, 0)", () -> x.product(0, 5, 0));
        checks.outOfBounds("product(0, 0, 5)", () -> x.product(0, 0, 5));
        changesNothing("product(0, 0, 5)", () -> x.product(0, 0, 5));
    }

    void promise8() {
        fresh();
        foldBy(0, "0123");
        x.seal(1, 0);
        checks.due("opposite(1, 0)", () -> x.opposite(1, 0), 4);
        lies("opposite", 1, -4, 1, 2, 3);
        remembers("its least word", 1, "3210");
        checks.due("no seals", () -> x.letter(1, 7), 0);
        checks.due("product with it", () -> x.product(2, 0, 1), 0);
        checks.due("product with it, the other way", () -> x.product(2, 1, 0), 0);
        checks.due("of itself", () -> x.opposite(0, 0), 4);
        lies("of itself", 0, -4, 1, 2, 3);
        checks.due("undo()", () -> x.undo(), 5);
        lies("undone", 0, 2, 3, 4, -1);
        checks.outOfBounds("opposite(-1, 0)", () -> x.opposite(-1, 0));
        checks.outOfBounds("opposite(5, 0)", () -> x.opposite(5, 0));
        checks.outOfBounds("opposite(0, -1)", () -> x.opposite(0, -1));
        checks.outOfBounds("opposite(0, 5)", () -> x.opposite(0, 5));
    }

    void promise9() {
        fresh();
        checks.due("seal(0, 0)", () -> x.seal(0, 0), 1);
        checks.due("seal(0, 3)", () -> x.seal(0, 3), 2);
        checks.due("taken off", () -> x.seal(0, 0), 1);
        checks.due("the mask", () -> x.letter(0, 7), 8);
        checks.due("undoable", () -> x.undo(), 2);
        checks.due("sealed again", () -> x.letter(0, 7), 9);
        foldBy(1, "02");
        changesNothing("turned over", () -> x.seal(1, 0));
        checks.badState("turned over", () -> x.seal(1, 0));
        checks.badState("another layer", () -> x.seal(1, 1));
        checks.badState("another layer below", () -> x.seal(1, 2));
        checks.due("at home", () -> x.seal(1, 3), 1);
        checks.outOfBounds("seal(-1, 0)", () -> x.seal(-1, 0));
        checks.outOfBounds("seal(5, 0)", () -> x.seal(5, 0));
        checks.outOfBounds("seal(0, -1)", () -> x.seal(0, -1));
        checks.outOfBounds("seal(0, 4)", () -> x.seal(0, 4));
    }

    void promise10() {
        fresh();
        checks.due("append(33)", () -> x.append(33), 1);
        checks.due("append(126)", () -> x.append(126), 2);
        changesNothing("append(32)", () -> x.append(32));
        checks.badArgument("append(32)", () -> x.append(32));
        checks.badArgument("append(127)", () -> x.append(127));
        checks.badArgument("append(min)", () -> x.append(Integer.MIN_VALUE));
        checks.badArgument("append(0x10030)", () -> x.append(0x10030));
        type("0".repeat(57));
        checks.due("the 60th", () -> x.append('1'), 60);
        changesNothing("the 61st", () -> x.append('1'));
        checks.badState("the 61st", () -> x.append('1'));
        checks.badArgument("the first exception named", () -> x.append(32));
        checks.due("not undoable", () -> x.count(6), 0);
    }

    void promise11() {
        fresh();
        type("(01");
        checks.due("clearBuffer()", () -> x.clearBuffer(), 3);
        checks.due("clearBuffer() again", () -> x.clearBuffer(), 0);
        checks.due("append behind it", () -> x.append('0'), 1);
        checks.due("not undoable", () -> x.count(6), 0);
    }

    void promise12() {
        errorAt("", 0);
        errorAt("0123", 4);
        errorAt("4", 0);
        errorAt("/", 0);
        errorAt("0123a!", 4);
        errorAt(")", 0);
        errorAt("0)", 1);
        errorAt("()", 1);
        errorAt("(", 1);
        errorAt("(0", 2);
        errorAt("(0)", 3);
        errorAt("(0)0", 3);
        errorAt("(0)1", 3);
        errorAt("(0):", 3);
        errorAt("(0)(", 3);
        errorAt("(0))", 3);
        errorAt("(0)2", 4);
        errorAt("(0)9", 4);
        errorAt("(0)22", 5);
        errorAt("(0)24", 4);
        errorAt("(0)2)", 4);
        errorAt("(4", 1);
        errorAt("((0)2", 5);
        errorAt("((0)2)3(1)4", 11);
        errorAt("0!1!", 1);
    }

    void promise12Depth() {
        errorAt("(((((", 5);
        errorAt("((((((", 5);
        errorAt("0((((((", 6);
        errorAt("(((((0)2(1)3", 12);
        errorAt("(((((0(", 6);
        errorAt("(((((0)2((", 9);
        errorAt("(".repeat(60), 5);
        errorAt("3".repeat(60), 60);
        errorAt("3".repeat(59) + "(", 60);
    }

    void promise13() {
        hasCreases("0", 1);
        hasCreases("0123", 4);
        hasCreases("(0)2", 2);
        hasCreases("(01)23", 5);
        hasCreases("((01)23)9", 45);
        hasCreases("0((01)2(2)3)41", 30);
        hasCreases("(((0123333333)5)5)4", 1000);
        hasCreases("(((012333333)3)4)9", 972);
        hasCreases("(((012333333)3)4)9(3)93333333333", 991);
        hasCreases("(((012333333)3)4)9(3)9(3)93333333333", 1000);
        hasCreases("(((012333333)3)4)9(3)9(3)9(3)9", 999);
        hasCreases("(((012333333)3)4)9(3)9(3)9(3)933", 1000);
        hasCreases("(((((" + "0".repeat(45) + ")9)9)9)9)9", 1000);
        for (String text : new String[] {"", "(", "(0", "(0)", "5", "0)", "(0)2("}) {
            fresh();
            type(text);
            checks.badArgument("creases of " + text, () -> x.creases());
            changesNothing("creases of " + text, () -> x.creases());
        }
    }

    void promise14And15() {
        fresh();
        changesNothing("goBack without a snapshot", () -> x.goBack());
        foldBy(0, "01");
        foldBy(1, "3");
        x.seal(1, 0);
        type("0");
        checks.due("keep()", () -> x.keep(), 3);
        checks.due("keep is not undoable", () -> x.count(6), 4);
        foldBy(0, "23");
        x.smooth(1);
        checks.due("goBack()", () -> x.goBack(), 3);
        remembers("as it was kept", 0, "01");
        checks.due("seals as they were kept", () -> x.letter(1, 7), 1);
        checks.due("counted as it was kept", () -> x.count(0), 3);
        checks.due("goBack is undoable", () -> x.count(6), 6);
        checks.due("the buffer is not kept", () -> x.clearBuffer(), 1);
        checks.due("undo()", () -> x.undo(), 5);
        remembers("before it went back", 0, "0123");
        checks.due("the snapshot stays", () -> x.goBack(), 3);
        x.smooth(0);
        checks.due("keep() in place", () -> x.keep(), 1);
        foldBy(4, "0");
        checks.due("goBack() to the later one", () -> x.goBack(), 1);
        remembers("the later one", 0, "");
        foldBy(1, "3");
        checks.due("goBack() again", () -> x.goBack(), 1);
        remembers("a fold after it changes no snapshot", 1, "3");
    }

    void promise16() {
        fresh();
        checks.badState("undo() at first", () -> x.undo());
        foldBy(0, "0123");
        checks.due("undo()", () -> x.undo(), 3);
        remembers("the latest is undone", 0, "012");
        checks.due("undo()", () -> x.undo(), 2);
        checks.due("undo()", () -> x.undo(), 1);
        checks.due("undo()", () -> x.undo(), 0);
        lies("all is undone", 0, 1, 2, 3, 4);
        changesNothing("undo() without a saved state", () -> x.undo());
        checks.badState("undo() without a saved state", () -> x.undo());
        foldBy(0, "01230123");
        checks.due("at most 6", () -> x.count(6), 6);
        for (int left = 5; left >= 0; left--) {
            checks.due("undo() of 6", () -> x.undo(), left);
        }
        checks.badState("the oldest ones are dropped", () -> x.undo());
        remembers("the oldest ones stay done", 0, "01");
    }

    void promise16Counts() {
        fresh();
        foldBy(0, "01");
        type("(2)3");
        x.word(0);
        x.unfold(0);
        checks.due("counted", () -> x.letter(0, 10), 6);
        x.undo();
        checks.due("counted before", () -> x.letter(0, 10), 5);
        x.undo();
        checks.due("counted before that", () -> x.count(0), 2);
        checks.due("the buffer does not come back", () -> x.clearBuffer(), 0);
        x.keep();
        x.undo();
        checks.due("undo leaves the snapshot", () -> x.goBack(), 2);
    }

    /** Whatever the method does, undo brings the digest back that was before, but for the buffer. */
    void promise16UndoOfEachMethod() {
        Runnable[] calls = {() -> x.fold(0, 0), () -> x.unfold(0), () -> x.press(0), () -> x.smooth(0),
            () -> x.product(0, 1, 0), () -> x.opposite(0, 1), () -> x.seal(0, 3), () -> x.goBack()};
        for (int i = 0; i < calls.length; i++) {
            fresh();
            x.keep();
            foldBy(0, "0110");
            foldBy(1, "12");
            x.undo();
            long before = x.digest();
            int saved = x.count(6);
            calls[i].run();
            checks.due("method " + i + " saves", () -> x.count(6), saved + 1);
            checks.due("undo() of method " + i, () -> x.undo(), saved);
            checks.due("all is as before method " + i, () -> x.digest(), before);
        }
    }

    void promise17() {
        fresh();
        foldBy(3, "0123");
        lies("layer", 3, 2, 3, 4, -1);
        checks.outOfBounds("layer(-1, 0)", () -> x.layer(-1, 0));
        checks.outOfBounds("layer(5, 0)", () -> x.layer(5, 0));
        checks.outOfBounds("layer(0, -1)", () -> x.layer(0, -1));
        checks.outOfBounds("layer(0, 4)", () -> x.layer(0, 4));
    }

    void promise18() {
        fresh();
        numbers("flat", 0, 0, 0, 0, 1, 0, 4, 0, 0, 0, 0, 0);
        foldBy(0, "01");
        numbers("01", 0, 2, 2, 2, 4, 0, 2, 1, 0, 2, 0, 2);
        foldBy(1, "0123");
        numbers("0123", 1, 4, 4, 4, 8, 0, 0, 1, 0, 8, 0, 4);
        type("(0123)4");
        x.word(2);
        numbers("the longest", 2, 16, 16, 16, 2, 0, 0, 4, 0, 15, 0, 16);
        foldBy(3, "12");
        numbers("of period 3", 3, 2, 2, 2, 3, 0, 1, 0, 0, 4, 0, 2);
        type("12013");
        x.word(4);
        checks.due("of period 6", () -> x.letter(4, 3), 6);
        checks.outOfBounds("letter(-1, 0)", () -> x.letter(-1, 0));
        checks.outOfBounds("letter(5, 0)", () -> x.letter(5, 0));
        checks.outOfBounds("the first exception named", () -> x.letter(5, 11));
        checks.badArgument("letter(0, -1)", () -> x.letter(0, -1));
        checks.badArgument("letter(0, 11)", () -> x.letter(0, 11));
    }

    private void isMirror(String word, int due) {
        fresh();
        foldBy(0, word);
        checks.due("mirror " + word, () -> x.letter(0, 4), due);
    }

    void promise18Mirrors() {
        isMirror("", 0);
        isMirror("00", 0);
        isMirror("0", 1);
        isMirror("1", 1);
        isMirror("3", 1);
        isMirror("101", 1);
        isMirror("010", 1);
        isMirror("121", 1);
        isMirror("3210123", 1);
        isMirror("21012", 1);
        isMirror("0101", 0);
        isMirror("01", 0);
        isMirror("12", 0);
        isMirror("02", 0);
        isMirror("13", 0);
        isMirror("013", 0);
        isMirror("123", 0);
        isMirror("10101", 1);
        isMirror("01012", 0);
    }

    void promise18Seals() {
        fresh();
        x.seal(0, 0);
        x.seal(0, 2);
        numbers("sealed", 0, 0, 0, 0, 1, 0, 4, 0, 5, 0, 15, 0);
        x.seal(0, 0);
        checks.due("one is sealed", () -> x.letter(0, 9), 12);
        x.seal(0, 2);
        x.seal(0, 3);
        checks.due("the last is sealed", () -> x.letter(0, 9), 8);
        type("(0)9(0)9(0)9(0)9(0)9(0)9(0)6");
        x.word(1);
        checks.due("60 are remembered", () -> x.letter(1, 9), 15);
    }

    void promise19() {
        fresh();
        foldBy(2, "310");
        checks.due("crease(2, 0)", () -> x.crease(2, 0), 3);
        checks.due("crease(2, 1)", () -> x.crease(2, 1), 1);
        checks.due("crease(2, 2)", () -> x.crease(2, 2), 0);
        checks.due("crease(2, 3)", () -> x.crease(2, 3), -10);
        checks.due("crease(2, max)", () -> x.crease(2, Integer.MAX_VALUE), -10);
        x.unfold(2);
        checks.due("no more remembered", () -> x.crease(2, 2), -10);
        checks.outOfBounds("crease(2, -1)", () -> x.crease(2, -1));
        checks.outOfBounds("crease(-1, 0)", () -> x.crease(-1, 0));
        checks.outOfBounds("crease(5, 0)", () -> x.crease(5, 0));
    }

    void promise20() {
        fresh();
        leastIs("of a flat one", 0, "");
        foldBy(0, "20");
        leastIs("02 before 20", 0, "02");
        foldBy(1, "2123321");
        leastIs("of a long word", 1, "2");
        foldBy(4, "212");
        leastIs("121 before 212", 4, "121");
        foldBy(2, "1010");
        leastIs("0101 before 1010", 2, "0101");
        type("(3210)4");
        x.word(3);
        leastIs("of the longest", 3, "0101210123210123");
        checks.due("least(0, max)", () -> x.least(0, Integer.MAX_VALUE), -10);
        checks.outOfBounds("least(0, -1)", () -> x.least(0, -1));
        checks.outOfBounds("least(-1, 0)", () -> x.least(-1, 0));
        checks.outOfBounds("least(5, 0)", () -> x.least(5, 0));
    }

    void promise21() {
        fresh();
        counts("new", 0, 5, 0, 0, 0, 1, 0);
        foldBy(0, "0");
        foldBy(1, "1");
        foldBy(2, "01");
        counts("three folded", 4, 2, 2, 4, 0, 4, 4);
        foldBy(3, "1");
        x.seal(4, 0);
        x.seal(4, 1);
        x.seal(3, 3);
        x.unfold(2);
        counts("two alike", 6, 1, 4, 4, 3, 3, 6);
        x.smooth(2);
        x.press(1);
        counts("smooth and press do not count", 6, 2, 3, 3, 3, 3, 6);
        checks.badArgument("count(-1)", () -> x.count(-1));
        checks.badArgument("count(7)", () -> x.count(7));
    }

    void promise22() {
        fresh();
        x.seal(0, 1);
        checks.due("why(0, 0)", () -> x.why(0, 0), 0);
        checks.due("why(0, 1)", () -> x.why(0, 1), 2);
        checks.due("why(0, 2)", () -> x.why(0, 2), 2);
        checks.due("why(0, 3)", () -> x.why(0, 3), 0);
        x.seal(1, 0);
        checks.due("why(1, 0)", () -> x.why(1, 0), 2);
        type("(3)9(3)9(3)9(3)9(3)9(3)9(3)5");
        x.word(0);
        checks.due("59 are remembered", () -> x.why(0, 0), 0);
        x.fold(0, 3);
        checks.due("60 are remembered", () -> x.why(0, 0), 1);
        checks.due("the first reason", () -> x.why(0, 1), 1);
        checks.outOfBounds("why(-1, 0)", () -> x.why(-1, 0));
        checks.outOfBounds("why(5, 0)", () -> x.why(5, 0));
        checks.outOfBounds("why(0, -1)", () -> x.why(0, -1));
        checks.outOfBounds("why(0, 4)", () -> x.why(0, 4));
    }

    void promise23() {
        fresh();
        foldBy(0, "01");
        checks.due("ifFolded(0, 0)", () -> x.ifFolded(0, 0), 3);
        checks.due("ifFolded(0, 1)", () -> x.ifFolded(0, 1), 1);
        checks.due("ifFolded(0, 2)", () -> x.ifFolded(0, 2), 3);
        checks.due("ifFolded(0, 3)", () -> x.ifFolded(0, 3), 3);
        checks.due("it is not folded", () -> x.letter(0, 0), 2);
        x.seal(0, 3);
        checks.due("though it can not be", () -> x.ifFolded(0, 3), 3);
        checks.outOfBounds("ifFolded(-1, 0)", () -> x.ifFolded(-1, 0));
        checks.outOfBounds("ifFolded(5, 0)", () -> x.ifFolded(5, 0));
        checks.outOfBounds("ifFolded(0, -1)", () -> x.ifFolded(0, -1));
        checks.outOfBounds("ifFolded(0, 4)", () -> x.ifFolded(0, 4));
    }

    void promise24() {
        fresh();
        foldBy(0, "0123");
        foldBy(1, "012");
        foldBy(2, "123");
        checks.due("distance(0, 1)", () -> x.distance(0, 1), 1);
        checks.due("distance(1, 0)", () -> x.distance(1, 0), 1);
        checks.due("distance(0, 0)", () -> x.distance(0, 0), 0);
        checks.due("distance(0, 4)", () -> x.distance(0, 4), 4);
        checks.due("distance(0, 2)", () -> x.distance(0, 2), 7);
        checks.outOfBounds("distance(-1, 0)", () -> x.distance(-1, 0));
        checks.outOfBounds("distance(5, 0)", () -> x.distance(5, 0));
        checks.outOfBounds("distance(0, -1)", () -> x.distance(0, -1));
        checks.outOfBounds("distance(0, 5)", () -> x.distance(0, 5));
    }

    void promise25() {
        fresh();
        checks.due("nearest(0) of flat ones", () -> x.nearest(0), 1);
        checks.due("nearest(1) of flat ones", () -> x.nearest(1), 0);
        foldBy(0, "0123");
        checks.due("nearest(1)", () -> x.nearest(1), 2);
        checks.due("nearest(4)", () -> x.nearest(4), 1);
        foldBy(3, "012");
        checks.due("nearest(0)", () -> x.nearest(0), 3);
        checks.due("nearest(3)", () -> x.nearest(3), 0);
        foldBy(1, "3210");
        foldBy(2, "321");
        x.opposite(4, 0);
        type("(0123)4");
        x.smooth(3);
        x.word(3);
        checks.due("nearest to one far away", () -> x.nearest(3), 0);
        fresh();
        type("(0123)4");
        x.word(0);
        checks.due("nearest where all are as far as can be", () -> x.nearest(0), 1);
        checks.outOfBounds("nearest(-1)", () -> x.nearest(-1));
        checks.outOfBounds("nearest(5)", () -> x.nearest(5));
    }

    void promise26() {
        fresh();
        int[] due = {1, 4, 9, 16, 24, 32, 39, 44, 46, 44, 39, 32, 24, 16, 9, 4, 1, 0, 0, 0, 0};
        for (int i = 0; i < due.length; i++) {
            int length = i;
            checks.due("ways(" + i + ", 0)", () -> x.ways(length, 0), due[length]);
            checks.due("ways(" + i + ", 1)", () -> x.ways(length, 1), due[length]);
        }
        checks.badArgument("ways(-1, 0)", () -> x.ways(-1, 0));
        checks.badArgument("ways(21, 1)", () -> x.ways(21, 1));
        checks.badArgument("ways(0, -1)", () -> x.ways(0, -1));
        checks.badArgument("ways(0, 2)", () -> x.ways(0, 2));
    }

    void promise27() {
        fresh();
        share("pressed() without folds", x.pressed(), 1.0);
        foldBy(0, "33");
        share("pressed() of nothing", x.pressed(), 0.0);
        foldBy(1, "012");
        share("pressed()", x.pressed(), 3.0 / 5);
        foldBy(2, "00");
        share("pressed() of 7", x.pressed(), 3.0 / 7);
        x.press(0);
        x.press(2);
        share("pressed() after presses", x.pressed(), 1.0);
    }

    void promise28() {
        fresh();
        share("meanLength() of flat ones", x.meanLength(), 0.0f);
        foldBy(0, "0");
        share("meanLength()", x.meanLength(), 0.2f);
        foldBy(1, "0123012");
        share("meanLength() of 8", x.meanLength(), 1.6f);
    }

    void promise29() {
        fresh();
        long empty = x.digest();
        checks.due("digest() of equal objects", () -> new FoldedLetters().digest(), empty);
        checks.due("digest() changes nothing", () -> x.digest(), empty);
        Model model = new Model();
        foldBoth(model, "1001");
        checks.due("digest() after 1001", () -> x.digest(), model.digest());
        x.keep();
        model.keep();
        checks.due("digest() with a snapshot", () -> x.digest(), model.digest());
        type("(0");
        model.append('(');
        model.append('0');
        checks.due("digest() with a text", () -> x.digest(), model.digest());
        foldBoth(model, "0123012301");
        checks.due("digest() of a long one", () -> x.digest(), model.digest());
    }

    private void foldBoth(Model model, String creases) {
        for (int i = 0; i < creases.length(); i++) {
            x.fold(0, creases.charAt(i) - '0');
            model.fold(0, creases.charAt(i) - '0');
        }
    }
}
