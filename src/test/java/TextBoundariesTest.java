/** Promises 10 to 13 at their bounds, and the sentences of "Input text" that they rest on. */
public final class TextBoundariesTest extends Bench {
    /** 1000 creases, in 17 characters. */
    private static final String THOUSAND = "(((01230123)5)5)5";

    public static void main(String[] args) {
        new TextBoundariesTest().runAll();
    }

    // ---- 10: append

    void promise10Codes() {
        bounds("append", BAD_ARGUMENT, 33, 126, (y, code) -> y.append(code));
        for (int code : new int[] {0, -48, 128, 255, 256 + '0', 65536 + '0'}) {
            refused("append of " + code, BAD_ARGUMENT, Bench::busy, y -> y.append(code));
        }
    }

    void promise10EveryCodeBetween() {
        for (int c = 33; c <= 126; c++) {
            int code = c;
            checks.due("append of " + c, () -> x.append(code), 1);
            x.clearBuffer();
        }
    }

    void promise10NewLength() {
        for (int l = 1; l <= 60; l++) {
            int length = l;
            checks.due("append", () -> x.append('0'), length);
        }
        checks.due("all are held", () -> x.clearBuffer(), 60);
    }

    void promise10SixtyAtMost() {
        type("0".repeat(59));
        checks.due("the 60th", () -> x.append('('), 60);
        refused("the 61st", BAD_STATE, y -> type(y, "0".repeat(60)), y -> y.append('0'));
        refused("the 61st, no word", BAD_STATE, y -> type(y, "x".repeat(60)), y -> y.append('x'));
    }

    void promise10ArgumentComesBeforeState() {
        refused("32 as the 61st", BAD_ARGUMENT, y -> type(y, "0".repeat(60)), y -> y.append(32));
        refused("127 as the 61st", BAD_ARGUMENT, y -> type(y, "0".repeat(60)), y -> y.append(127));
    }

    void promise10RoomAgain() {
        type("0".repeat(60));
        x.clearBuffer();
        checks.due("after clearBuffer()", () -> x.append('0'), 1);
        type("0".repeat(59));
        x.word(0);
        checks.due("after word()", () -> x.append('0'), 1);
    }

    void promise10SavesNoState() {
        type("0");
        checks.due("append() is not undoable", () -> x.count(6), 0);
    }

    // ---- 11: clearBuffer

    void promise11EmptyToFull() {
        checks.due("empty", () -> x.clearBuffer(), 0);
        type("(");
        checks.due("one", () -> x.clearBuffer(), 1);
        type("~".repeat(60));
        checks.due("full", () -> x.clearBuffer(), 60);
        checks.due("cleared", () -> x.clearBuffer(), 0);
        checks.due("no error is left", () -> x.firstError(), 0);
        checks.badArgument("no word is left", () -> x.creases());
        checks.due("it is not undoable", () -> x.count(6), 0);
    }

    void promise11LettersStay() {
        foldBy(0, "01");
        type("2");
        x.clearBuffer();
        remembers("folds", 0, "01");
        checks.due("saved states", () -> x.count(6), 2);
    }

    // ---- 12: firstError

    void promise12Empty() {
        errorAt("", 0);
        leavesAll("firstError()", y -> { }, y -> y.firstError());
    }

    void promise12Creases() {
        errorAt("/", 0);
        errorAt("0", 1);
        errorAt("3", 1);
        errorAt("4", 0);
        errorAt("0/", 1);
        errorAt("00", 2);
        errorAt("33", 2);
        errorAt("34", 1);
        errorAt("(/", 1);
        errorAt("(0", 2);
        errorAt("(3", 2);
        errorAt("(4", 1);
    }

    void promise12EachCharacterAtFirst() {
        for (int code = 33; code <= 126; code++) {
            boolean begins = code == '(' || code >= '0' && code <= '3';
            errorAt("" + (char) code, begins ? 1 : 0);
        }
    }

    void promise12EachCharacterBehindAnItem() {
        for (int code = 33; code <= 126; code++) {
            boolean fits = code == '(' || code >= '0' && code <= '3';
            errorAt("0" + (char) code, fits ? 2 : 1);
            errorAt("(0" + (char) code, fits || code == ')' ? 3 : 2);
        }
    }

    void promise12EachCharacterBehindABracket() {
        for (int code = 33; code <= 126; code++) {
            boolean begins = code == '(' || code >= '0' && code <= '3';
            errorAt("(" + (char) code, begins ? 2 : 1);
            errorAt("(0)" + (char) code, code >= '2' && code <= '9' ? 4 : 3);
        }
    }

    void promise12Figures() {
        errorAt("(0)/", 3);
        errorAt("(0)0", 3);
        errorAt("(0)1", 3);
        errorAt("(0)2", 4);
        errorAt("(0)9", 4);
        errorAt("(0):", 3);
        errorAt("(0)29", 4);
        errorAt("(0)92", 5);
    }

    void promise12OneItemOrMore() {
        errorAt("()", 1);
        errorAt("0()", 2);
        errorAt("(())", 2);
        errorAt("(0())", 3);
        errorAt("((0)2)2", 7);
    }

    void promise12NoBracketIsOpen() {
        errorAt(")", 0);
        errorAt("0)", 1);
        errorAt("(0)2)", 4);
        errorAt("(0)2", 4);
        errorAt("((0)2)2)", 7);
    }

    void promise12FiveOpenAtATime() {
        errorAt("((((", 4);
        errorAt("(((((", 5);
        errorAt("((((((", 5);
        errorAt("3(((((", 6);
        errorAt("3((((((", 6);
        errorAt("(3(3(3(3(3", 10);
        errorAt("(3(3(3(3(3(", 10);
    }

    void promise12OpenedAgainBehindAClosedOne() {
        errorAt("(((((0)2(", 9);
        errorAt("(((((0)2((", 9);
        errorAt("(((((0)2)2((", 12);
        errorAt("(((((0)2)2(((", 12);
        errorAt("(0)2(0)2(0)2(0)2(0)2(0)2", 24);
        errorAt("(((((0)2)2)2)2)2(((((0)2)2)2)2)2", 32);
        errorAt("(((((0)2)2)2)2)2((((((", 21);
    }

    void promise12FirstOfSeveral() {
        errorAt("4)x", 0);
        errorAt("0)4", 1);
        errorAt("01x(", 2);
        errorAt("(0)1)", 3);
    }

    /** No word of 60 characters begins so, but longer ones do. */
    void promise12WordsOfAnyLength() {
        errorAt("0".repeat(59) + "(", 60);
        errorAt("(((((" + "0".repeat(55), 60);
        errorAt("0".repeat(57) + "(0)", 60);
        errorAt("0".repeat(55) + "(((((", 60);
    }

    void promise12LastOfSixty() {
        errorAt("0".repeat(60), 60);
        errorAt("0".repeat(59) + ")", 59);
        errorAt("0".repeat(54) + "((((((", 59);
        errorAt("0".repeat(56) + "(0)1", 59);
        errorAt("0".repeat(56) + "(0)2", 60);
    }

    void promise12ChangesNothing() {
        leavesAll("firstError() of a word", Bench::busy, y -> y.firstError());
        leavesAll("firstError() of none", y -> type(y, "(0))"), y -> y.firstError());
    }

    // ---- 13: creases

    void promise13NotACompleteWord() {
        String[] texts = {"", "(", "((0)2", "(0", "(0)", "4", "/", ")", "()", "0)", "(0)1", "(0)0", "(0):",
            "((((((0)2)2)2)2)2)2", "(0)2(", "(0)2)", "0x", "x0", "0".repeat(59) + "("};
        for (String text : texts) {
            refused("creases of " + text, BAD_ARGUMENT, y -> type(y, text), y -> y.creases());
        }
    }

    void promise13OneCreaseAndMore() {
        hasCreases("0", 1);
        hasCreases("3", 1);
        hasCreases("30", 2);
        hasCreases("0".repeat(60), 60);
    }

    void promise13Repeats() {
        hasCreases("(0)2", 2);
        hasCreases("(0)9", 9);
        hasCreases("(012)9", 27);
        hasCreases("(0)2(1)3", 5);
        hasCreases("0(1)23", 4);
        hasCreases("((0)2)2", 4);
        hasCreases("(1(0)2)3", 9);
        hasCreases("((0)21)3", 9);
    }

    void promise13FiveOpen() {
        hasCreases("(((((0)2)2)2)2)2", 32);
        hasCreases("(((((0)21)22)23)21)2", 62);
        hasCreases("(((((0)2)2)2)2)2(((((0)2)2)2)2)2", 64);
        hasCreases("0(1(2(3(0(1)2)2)2)2)2", 63);
        hasCreases("0(1(2(3(0(1)2)2)2)2)2(0(1)2)2", 69);
    }

    void promise13ThousandAtMost() {
        hasCreases("(((012333333)3)4)9(3)9(3)9(3)9", 999);
        hasCreases("(((0123012" + "3".repeat(30) + ")3)3)3", 999);
        hasCreases(THOUSAND, 1000);
        hasCreases(THOUSAND + "0", 1000);
        hasCreases(THOUSAND + THOUSAND, 1000);
        hasCreases("(" + THOUSAND + ")2", 1000);
        hasCreases("((((" + "0".repeat(9) + ")9)9)9)9", 1000);
        hasCreases("(((((" + "0".repeat(45) + ")9)9)9)9)9", 1000);
    }

    void promise13NotByWhatCanBeDone() {
        foldWord(0, SIXTY);
        x.seal(1, 0);
        type("(0)22");
        checks.due("with 60 folds and a seal", () -> x.creases(), 3);
    }

    void promise13ChangesNothing() {
        leavesAll("creases() of a word", Bench::busy, y -> y.creases());
        leavesAll("creases() of a long one", y -> type(y, "(((((0)9)9)9)9)9"), y -> y.creases());
    }
}
