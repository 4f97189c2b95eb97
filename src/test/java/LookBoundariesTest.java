import java.util.List;
import java.util.function.Consumer;

/** Promises 17 to 29 at their bounds, and the sentences of "Terms" that they rest on. */
public final class LookBoundariesTest extends Bench {
    private static final String LEAST_OF_LONGEST = "0101210123210123";
    /** How many of the 384 ways to lie have each length. */
    private static final int[] WAYS = {1, 4, 9, 16, 24, 32, 39, 44, 46, 44, 39, 32, 24, 16, 9, 4, 1};

    public static void main(String[] args) {
        new LookBoundariesTest().runAll();
    }

    private void number(String word, int what, int due) {
        fresh();
        foldBy(0, word);
        checks.due("number " + what + " of " + word, () -> x.letter(0, what), due);
    }

    private void fiveLongest() {
        for (int letter = 0; letter < 5; letter++) {
            foldWord(letter, LONGEST);
        }
    }

    private void sealAll(int letter) {
        for (int position = 0; position < 4; position++) {
            x.seal(letter, position);
        }
    }

    // ---- 17: layer

    void promise17Bounds() {
        bounds("layer, letter", 0, 4, (y, letter) -> y.layer(letter, 0));
        bounds("layer, position", 0, 3, (y, position) -> y.layer(0, position));
        leavesAll("layer()", Bench::busy, y -> y.layer(0, 0));
    }

    void promise17EachLayerOnBothSides() {
        lies("none turned over", 0, 1, 2, 3, 4);
        foldWord(0, LONGEST);
        lies("all turned over", 0, -1, -2, -3, -4);
        foldBy(1, "123");
        lies("from top to bottom", 1, 2, 3, 4, 1);
        foldBy(2, "3210");
        lies("from bottom to top, turned over", 2, -4, 1, 2, 3);
    }

    // ---- 18: letter

    void promise18Bounds() {
        bounds("letter, letter", 0, 4, (y, letter) -> y.letter(letter, 0));
        bounds("letter, what", BAD_ARGUMENT, 0, 10, (y, what) -> y.letter(0, what));
        refused("what above, no letter", OUT_OF_BOUNDS, Bench::busy, y -> y.letter(5, 11));
        refused("what below, no letter", OUT_OF_BOUNDS, Bench::busy, y -> y.letter(-1, -1));
        for (int w = 0; w <= 10; w++) {
            int what = w;
            leavesAll("letter()", Bench::busy, y -> y.letter(0, what));
        }
    }

    void promise18LengthsFromFlatToLongest() {
        for (int length = 0; length <= 16; length++) {
            String word = LEAST_OF_LONGEST.substring(0, length);
            number(word, 0, length);
            number(word, 1, length);
        }
    }

    void promise18LengthOfPairs() {
        number("0", 0, 1);
        number("1", 0, 1);
        number("01", 0, 2);
        number("101", 0, 3);
        number("0101", 0, 4);
        number("3210123", 0, 7);
        number("123121", 0, 6);
        number("0123012301230", 0, 13);
    }

    void promise18Remembered() {
        number("", 2, 0);
        number("3", 2, 1);
        number("33", 2, 2);
        foldWord(1, SIXTY);
        checks.due("60 are remembered", () -> x.letter(1, 2), 60);
    }

    void promise18Period() {
        number("", 3, 1);
        number("33", 3, 1);
        number("0", 3, 2);
        number("1", 3, 2);
        number("02", 3, 2);
        number("12", 3, 3);
        number("01", 3, 4);
        number("123", 3, 4);
        number("012", 3, 6);
        number("0123", 3, 8);
        number(LEAST_OF_LONGEST, 3, 2);
    }

    void promise18Mirrors() {
        number("", 4, 0);
        for (String word : new String[] {"0", "1", "2", "3", "010", "101", "121", "21012", "3210123"}) {
            number(word, 4, 1);
        }
        for (String word : new String[] {"01", "02", "0101", "13", "012", "0123", "013", "123", LEAST_OF_LONGEST}) {
            number(word, 4, 0);
        }
        number("010121012", 4, 0);
        number("01013", 4, 0);
    }

    void promise18SixteenMirrors() {
        int mirrors = 0;
        for (List<Integer> word : Model.leastWords()) {
            fresh();
            for (int crease : word) {
                x.fold(0, crease);
            }
            mirrors += x.letter(0, 4);
        }
        checks.same("mirrors among the ways to lie", "" + mirrors, "16");
    }

    void promise18AtHome() {
        number("", 5, 4);
        number("0", 5, 3);
        number("3", 5, 2);
        number("12", 5, 1);
        number("123", 5, 0);
        number(LEAST_OF_LONGEST, 5, 0);
    }

    void promise18TurnedOver() {
        number("", 6, 0);
        number("123", 6, 0);
        number("0", 6, 1);
        number("010", 6, 2);
        number("0121010", 6, 3);
        number(LEAST_OF_LONGEST, 6, 4);
    }

    void promise18SealMasks() {
        int[] barred = {3, 6, 12, 8};
        for (int p = 0; p < 4; p++) {
            int position = p;
            fresh();
            x.seal(0, p);
            checks.due("the mask of " + p, () -> x.letter(0, 7), 1 << position);
            checks.due("barred by " + p, () -> x.letter(0, 9), barred[position]);
        }
        fresh();
        checks.due("none is sealed", () -> x.letter(0, 7), 0);
        checks.due("none is barred", () -> x.letter(0, 9), 0);
        sealAll(0);
        checks.due("all are sealed", () -> x.letter(0, 7), 15);
        checks.due("all are barred", () -> x.letter(0, 9), 15);
        checks.due("none of another letter", () -> x.letter(1, 9), 0);
    }

    void promise18BarredBySixty() {
        foldWord(0, "3".repeat(59));
        checks.due("59 are remembered", () -> x.letter(0, 9), 0);
        x.fold(0, 2);
        checks.due("60 are remembered", () -> x.letter(0, 9), 15);
        checks.due("shorter all the same", () -> x.letter(0, 8), 4);
        x.unfold(0);
        checks.due("59 again", () -> x.letter(0, 9), 0);
    }

    void promise18Shortening() {
        number("", 8, 0);
        number("0", 8, 1);
        number("1", 8, 2);
        number("2", 8, 4);
        number("3", 8, 8);
        number("03", 8, 9);
        number("010", 8, 1);
        number("0101", 8, 3);
        number(LEAST_OF_LONGEST, 8, 15);
    }

    void promise18ShorteningAtASeal() {
        foldBy(0, "232");
        lies("position 2 is at home", 0, 1, 4, 3, 2);
        x.seal(0, 2);
        checks.due("they would make it shorter", () -> x.letter(0, 8), 12);
        checks.due("but can not be folded", () -> x.letter(0, 9), 12);
    }

    void promise18FoldsSoFar() {
        foldBy(0, "01");
        checks.due("fold()", () -> x.letter(0, 10), 2);
        foldWord(0, "(23)2");
        checks.due("word()", () -> x.letter(0, 10), 6);
        x.unfold(0);
        checks.due("unfold()", () -> x.letter(0, 10), 7);
        x.press(0);
        x.product(0, 0, 0);
        x.opposite(0, 0);
        x.smooth(0);
        x.seal(0, 0);
        checks.due("no other method", () -> x.letter(0, 10), 7);
        checks.due("none of another letter", () -> x.letter(1, 10), 0);
        checks.badState("refused", () -> x.fold(0, 0));
        checks.due("no refused one", () -> x.letter(0, 10), 7);
    }

    void promise18FoldsSoFarBeyondSixty() {
        foldWord(0, SIXTY);
        type("0");
        checks.due("none is done", () -> x.word(0), 0);
        checks.due("60 so far", () -> x.letter(0, 10), 60);
        x.unfold(0);
        x.fold(0, 2);
        checks.due("62 so far", () -> x.letter(0, 10), 62);
        checks.due("60 are remembered", () -> x.letter(0, 2), 60);
    }

    // ---- 19: crease

    void promise19Bounds() {
        bounds("crease, letter", 0, 4, (y, letter) -> y.crease(letter, 0));
        refused("place below 0", OUT_OF_BOUNDS, Bench::busy, y -> y.crease(0, -1));
        refused("place far below 0", OUT_OF_BOUNDS, Bench::busy, y -> y.crease(0, Integer.MIN_VALUE));
        refused("no letter, place below 0", OUT_OF_BOUNDS, Bench::busy, y -> y.crease(5, -1));
        refused("no letter, place beyond", OUT_OF_BOUNDS, Bench::busy, y -> y.crease(5, 60));
        leavesAll("crease()", Bench::busy, y -> y.crease(0, 0));
        leavesAll("crease() beyond", Bench::busy, y -> y.crease(0, 60));
    }

    void promise19NotSoMany() {
        checks.due("none is remembered", () -> x.crease(0, 0), -10);
        foldBy(0, "31");
        checks.due("the first one", () -> x.crease(0, 0), 3);
        checks.due("the last one", () -> x.crease(0, 1), 1);
        checks.due("behind it", () -> x.crease(0, 2), -10);
        checks.due("far behind it", () -> x.crease(0, Integer.MAX_VALUE), -10);
        x.smooth(0);
        checks.due("smooth", () -> x.crease(0, 0), -10);
    }

    void promise19Sixty() {
        foldWord(0, "1" + "2".repeat(57) + "30");
        checks.due("the first one", () -> x.crease(0, 0), 1);
        checks.due("the 59th", () -> x.crease(0, 58), 3);
        checks.due("the 60th", () -> x.crease(0, 59), 0);
        checks.due("the 61st", () -> x.crease(0, 60), -10);
        x.unfold(0);
        checks.due("the 60th is taken back", () -> x.crease(0, 59), -10);
        x.press(0);
        checks.due("pressed", () -> x.crease(0, 3), -10);
    }

    // ---- 20: least

    void promise20Bounds() {
        bounds("least, letter", 0, 4, (y, letter) -> y.least(letter, 0));
        refused("place below 0", OUT_OF_BOUNDS, Bench::busy, y -> y.least(0, -1));
        refused("place far below 0", OUT_OF_BOUNDS, Bench::busy, y -> y.least(0, Integer.MIN_VALUE));
        refused("no letter, place below 0", OUT_OF_BOUNDS, Bench::busy, y -> y.least(5, -1));
        refused("no letter, place beyond", OUT_OF_BOUNDS, Bench::busy, y -> y.least(5, 16));
        leavesAll("least()", Bench::busy, y -> y.least(0, 0));
        leavesAll("least() beyond", Bench::busy, y -> y.least(0, 16));
    }

    void promise20NotSoMany() {
        checks.due("flat", () -> x.least(0, 0), -10);
        foldBy(0, "33");
        checks.due("flat with folds", () -> x.least(0, 0), -10);
        foldBy(0, "20");
        checks.due("the first one", () -> x.least(0, 0), 0);
        checks.due("the last one", () -> x.least(0, 1), 2);
        checks.due("behind it", () -> x.least(0, 2), -10);
        checks.due("far behind it", () -> x.least(0, Integer.MAX_VALUE), -10);
    }

    void promise20OfTheLongest() {
        foldWord(0, LONGEST);
        leastIs("the longest", 0, LEAST_OF_LONGEST);
        checks.due("the 16th", () -> x.least(0, 15), 3);
        checks.due("the 17th", () -> x.least(0, 16), -10);
    }

    private void leastOf(String word, String least) {
        fresh();
        foldBy(0, word);
        leastIs("least word of " + word, 0, least);
    }

    void promise20FirstOfTheShortest() {
        leastOf("20", "02");
        leastOf("30", "03");
        leastOf("31", "13");
        leastOf("212", "121");
        leastOf("323", "232");
        leastOf("1010", "0101");
        leastOf("10", "10");
        leastOf("2010", "0210");
        leastOf("321323", "121321");
    }

    // ---- 21: count

    void promise21Bounds() {
        bounds("count", BAD_ARGUMENT, 0, 6, (y, what) -> y.count(what));
        for (int w = 0; w <= 6; w++) {
            int what = w;
            leavesAll("count()", Bench::busy, y -> y.count(what));
        }
    }

    void promise21NoneAndAll() {
        counts("new", 0, 5, 0, 0, 0, 1, 0);
        for (int letter = 0; letter < 5; letter++) {
            sealAll(letter);
        }
        counts("all sealed", 0, 5, 0, 0, 20, 1, 6);
        fresh();
        fiveLongest();
        counts("all longest", 80, 0, 0, 80, 0, 1, 5);
        fresh();
        for (int letter = 0; letter < 5; letter++) {
            foldWord(letter, SIXTY);
        }
        counts("60 folds each", 300, 5, 0, 0, 0, 1, 5);
        fresh();
        for (int letter = 0; letter < 5; letter++) {
            x.fold(letter, 3 - letter / 2);
        }
        counts("all mirrors", 5, 0, 5, 5, 0, 3, 5);
    }

    void promise21UnlikeWays() {
        foldBy(1, "0");
        checks.due("unlike by one side", () -> x.count(5), 2);
        foldBy(2, "1");
        checks.due("unlike by places", () -> x.count(5), 3);
        foldBy(3, "3");
        checks.due("one more", () -> x.count(5), 4);
        foldBy(4, "10");
        checks.due("all unlike", () -> x.count(5), 5);
        foldBy(0, "11100");
        checks.due("alike by other folds", () -> x.count(5), 4);
        x.seal(0, 3);
        checks.due("a seal is no way to lie", () -> x.count(5), 4);
    }

    void promise21FoldsSoFar() {
        foldBy(0, "01");
        foldWord(4, "(2)3");
        x.unfold(4);
        checks.due("of all letters", () -> x.count(0), 6);
        x.press(4);
        x.smooth(0);
        x.product(1, 4, 4);
        x.opposite(2, 4);
        checks.due("by no other method", () -> x.count(0), 6);
    }

    void promise21SavedStates() {
        for (int i = 1; i <= 8; i++) {
            x.press(0);
            int saved = Math.min(i, 6);
            checks.due("saved states", () -> x.count(6), saved);
        }
    }

    // ---- 22: why

    void promise22Bounds() {
        bounds("why, letter", 0, 4, (y, letter) -> y.why(letter, 0));
        bounds("why, crease", 0, 3, (y, crease) -> y.why(0, crease));
        leavesAll("why()", Bench::busy, y -> y.why(0, 3));
    }

    private void reasons(String what, int... due) {
        for (int c = 0; c < 4; c++) {
            int crease = c;
            checks.due(what + ", crease " + c, () -> x.why(0, crease), due[crease]);
        }
    }

    void promise22Seals() {
        int[][] due = {{2, 2, 0, 0}, {0, 2, 2, 0}, {0, 0, 2, 2}, {0, 0, 0, 2}};
        for (int position = 0; position < 4; position++) {
            reasons("no seal", 0, 0, 0, 0);
            x.seal(0, position);
            reasons("sealed " + position, due[position]);
            x.seal(0, position);
        }
        sealAll(1);
        reasons("another letter's seals", 0, 0, 0, 0);
    }

    void promise22SixtyComesFirst() {
        foldWord(0, "3".repeat(58));
        x.seal(0, 0);
        reasons("58 are remembered", 2, 2, 0, 0);
        x.fold(0, 3);
        reasons("59 are remembered", 2, 2, 0, 0);
        x.fold(0, 3);
        reasons("60 are remembered", 1, 1, 1, 1);
        x.unfold(0);
        reasons("59 again", 2, 2, 0, 0);
    }

    // ---- 23: ifFolded

    void promise23Bounds() {
        bounds("ifFolded, letter", 0, 4, (y, letter) -> y.ifFolded(letter, 0));
        bounds("ifFolded, crease", 0, 3, (y, crease) -> y.ifFolded(0, crease));
        leavesAll("ifFolded()", Bench::busy, y -> y.ifFolded(0, 0));
        leavesAll("ifFolded() at a seal", Bench::busy, y -> y.ifFolded(0, 3));
    }

    private void wouldBe(String what, int... due) {
        for (int c = 0; c < 4; c++) {
            int crease = c;
            checks.due(what + ", crease " + c, () -> x.ifFolded(0, crease), due[crease]);
        }
    }

    void promise23ShortestAndLongest() {
        wouldBe("flat", 1, 1, 1, 1);
        foldBy(0, "3");
        wouldBe("of the length 1", 2, 2, 2, 0);
        x.smooth(0);
        foldWord(0, LONGEST);
        wouldBe("the longest", 15, 15, 15, 15);
    }

    void promise23WhetherItCanBeOrNot() {
        sealAll(0);
        wouldBe("all sealed", 1, 1, 1, 1);
        fresh();
        foldWord(0, SIXTY);
        wouldBe("60 are remembered", 1, 1, 1, 1);
        checks.due("still flat", () -> x.letter(0, 0), 0);
    }

    // ---- 24: distance

    void promise24Bounds() {
        bounds("distance, first", 0, 4, (y, first) -> y.distance(first, 1));
        bounds("distance, second", 0, 4, (y, second) -> y.distance(1, second));
        leavesAll("distance()", Bench::busy, y -> y.distance(0, 1));
    }

    void promise24ShortestAndLongest() {
        checks.due("of a flat one and itself", () -> x.distance(0, 0), 0);
        checks.due("of flat ones", () -> x.distance(0, 4), 0);
        foldWord(4, LONGEST);
        checks.due("of the longest and itself", () -> x.distance(4, 4), 0);
        checks.due("to the longest", () -> x.distance(0, 4), 16);
        checks.due("from the longest", () -> x.distance(4, 0), 16);
        foldBy(1, "0123");
        foldBy(2, "0123");
        checks.due("of two that lie alike", () -> x.distance(1, 2), 0);
        x.fold(2, 0);
        checks.due("one fold on", () -> x.distance(1, 2), 1);
        checks.due("and the rest", () -> x.distance(2, 4), 11);
    }

    void promise24OppositeOfTheFirst() {
        foldBy(0, "0");
        foldBy(1, "01");
        checks.due("1 is left of 0 and 01", () -> x.distance(0, 1), 1);
        checks.due("the other way", () -> x.distance(1, 0), 1);
        foldBy(2, "10");
        checks.due("0 and 10", () -> x.distance(0, 2), 3);
    }

    // ---- 25: nearest

    void promise25Bounds() {
        bounds("nearest", 0, 4, (y, letter) -> y.nearest(letter));
        leavesAll("nearest()", Bench::busy, y -> y.nearest(0));
    }

    void promise25LowestOfSeveral() {
        checks.due("all alike, of 0", () -> x.nearest(0), 1);
        for (int l = 1; l < 5; l++) {
            int letter = l;
            checks.due("all alike", () -> x.nearest(letter), 0);
        }
        foldBy(0, "0123");
        checks.due("not the lowest, as it is farther", () -> x.nearest(3), 1);
        checks.due("of several as far", () -> x.nearest(0), 1);
        foldBy(4, "012");
        checks.due("the highest, as it is nearer", () -> x.nearest(0), 4);
        checks.due("of the highest", () -> x.nearest(4), 0);
    }

    void promise25NeverItself() {
        foldWord(2, LONGEST);
        checks.due("all as far as can be", () -> x.nearest(2), 0);
        foldWord(0, LONGEST);
        foldWord(1, LONGEST);
        checks.due("of 0, one alike", () -> x.nearest(0), 1);
        checks.due("of 1, one alike", () -> x.nearest(1), 0);
        checks.due("of 4, one alike", () -> x.nearest(4), 3);
    }

    // ---- 26: ways

    void promise26Bounds() {
        for (int w = 0; w <= 1; w++) {
            int what = w;
            bounds("ways, length", BAD_ARGUMENT, 0, 20, (y, length) -> y.ways(length, what));
            leavesAll("ways()", Bench::busy, y -> y.ways(8, what));
        }
        for (int length : new int[] {0, 8, 16, 17, 20}) {
            bounds("ways, what", BAD_ARGUMENT, 0, 1, (y, what) -> y.ways(length, what));
        }
        refused("both are out of range", BAD_ARGUMENT, Bench::busy, y -> y.ways(21, 2));
        refused("both are below", BAD_ARGUMENT, Bench::busy, y -> y.ways(-1, -1));
    }

    void promise26EachLength() {
        int all = 0;
        for (int l = 0; l <= 20; l++) {
            int length = l;
            int due = l < WAYS.length ? WAYS[l] : 0;
            checks.due("told by multiplying, " + l, () -> x.ways(length, 0), due);
            checks.due("told by going, " + l, () -> x.ways(length, 1), due);
            all += x.ways(length, 1);
        }
        checks.same("all ways to lie", "" + all, "384");
    }

    void promise26WhateverTheLettersAre() {
        fiveLongest();
        checks.due("told by going at once", () -> x.ways(16, 1), 1);
        checks.due("and again", () -> x.ways(8, 1), 46);
        checks.due("and by multiplying", () -> x.ways(8, 0), 46);
    }

    // ---- 27: pressed

    void promise27WithoutFolds() {
        share("new", x.pressed(), 1.0);
        foldBy(0, "33");
        share("two folds for nothing", x.pressed(), 0.0);
        x.press(0);
        share("no folds are left", x.pressed(), 1.0);
        leavesAll("pressed()", Bench::busy, y -> (long) y.pressed());
    }

    void promise27NoneToAll() {
        foldBy(0, "0");
        share("one of one", x.pressed(), 1.0);
        foldBy(0, "00");
        share("one of three", x.pressed(), 1.0 / 3.0);
        fresh();
        fiveLongest();
        share("80 of 80", x.pressed(), 1.0);
        for (int letter = 0; letter < 5; letter++) {
            foldWord(letter, "(3)9(3)9(3)9(3)9(3)7");
        }
        share("75 of 295", x.pressed(), 75.0 / 295.0);
    }

    // ---- 28: meanLength

    void promise28ShortestAndLongest() {
        share("flat", x.meanLength(), 0.0f);
        foldBy(4, "0");
        share("one", x.meanLength(), 1.0f / 5.0f);
        x.smooth(4);
        fiveLongest();
        share("the longest", x.meanLength(), 16.0f);
        x.fold(0, 0);
        share("one less", x.meanLength(), 79.0f / 5.0f);
        leavesAll("meanLength()", Bench::busy, y -> (long) y.meanLength());
    }

    // ---- 29: digest

    /** Plays calls on an object and on the model: a letter for the method, then its arguments. */
    private void digestBehind(String calls) {
        fresh();
        Model model = new Model();
        for (String call : calls.split(" ")) {
            playOne(model, call);
        }
        checks.due("digest behind " + calls, () -> x.digest(), model.digest());
    }

    private void playOne(Model model, String call) {
        int first = call.length() > 1 ? call.charAt(1) - '0' : 0;
        int second = call.length() > 2 ? call.charAt(2) - '0' : 0;
        switch (call.isEmpty() ? ' ' : call.charAt(0)) {
            case 'f': x.fold(first, second); model.fold(first, second); break;
            case 'w': x.word(first); model.word(first); break;
            case 'p': x.press(first); model.press(first); break;
            case 's': x.seal(first, second); model.seal(first, second); break;
            case 'k': x.keep(); model.keep(); break;
            case 'u': x.undo(); model.undo(); break;
            case 't': typeBoth(model, call.substring(1)); break;
            default: break;
        }
    }

    private void typeBoth(Model model, String text) {
        type(text);
        for (int i = 0; i < text.length(); i++) {
            model.append(text.charAt(i));
        }
    }

    void promise29NoneAndOne() {
        digestBehind("");
        digestBehind("k");
        digestBehind("t0");
        digestBehind("f00");
        digestBehind("f43 p4");
        digestBehind("s00");
        digestBehind("f00 u");
        digestBehind("k f00");
    }

    void promise29AsMuchAsCanBe() {
        digestBehind("t" + "(~!0".repeat(15));
        digestBehind("t((12)6)5 w0");
        digestBehind("t((12)6)5 w3 s30 s31 s32 s33");
        digestBehind("t(0123)4 w0 f10 f11 f12 f13 f20 f21");
        digestBehind("t(0123)4 w0 k t((12)6)5 w0 f41 u");
        digestBehind("t(0123)4 w0 t(0123)4 w1 t(0123)4 w2 t(0123)4 w3 t(0123)4 w4");
    }

    void promise29ToldFromTheLooks() {
        busy(x);
        long hash = 3733;
        for (int what = 0; what <= 6; what++) {
            hash = 31 * hash + x.count(what);
        }
        for (int letter = 0; letter < 5; letter++) {
            hash = withLetter(hash, letter);
        }
        hash = 31 * hash + x.ways(x.letter(0, 0), 0);
        hash = 31 * hash + x.ways(x.letter(0, 0), 1);
        hash = 31 * hash + Double.doubleToLongBits(x.pressed());
        hash = 31 * hash + Float.floatToIntBits(x.meanLength());
        hash = 31 * hash + 1;
        hash = 31 * hash + 5;
        for (char code : "0(1)2".toCharArray()) {
            hash = 31 * hash + code;
        }
        checks.due("digest told from the looks", () -> x.digest(), hash);
    }

    private long withLetter(long before, int letter) {
        long hash = before;
        for (int position = 0; position < 4; position++) {
            hash = 31 * hash + x.layer(letter, position);
        }
        for (int what = 0; what <= 10; what++) {
            hash = 31 * hash + x.letter(letter, what);
        }
        for (int place = 0; x.crease(letter, place) != FoldedLetters.NONE; place++) {
            hash = 31 * hash + x.crease(letter, place);
        }
        for (int place = 0; x.least(letter, place) != FoldedLetters.NONE; place++) {
            hash = 31 * hash + x.least(letter, place);
        }
        for (int crease = 0; crease < 4; crease++) {
            hash = 31 * hash + x.why(letter, crease);
        }
        for (int crease = 0; crease < 4; crease++) {
            hash = 31 * hash + x.ifFolded(letter, crease);
        }
        for (int other = 0; other < 5; other++) {
            hash = 31 * hash + x.distance(letter, other);
        }
        return 31 * hash + x.nearest(letter);
    }

    void promise29ChangesNothing() {
        leavesAll("digest()", Bench::busy, y -> y.digest());
        leavesAll("digest() of a new one", y -> { }, y -> y.digest());
    }

    void promise29SeesEachChange() {
        List<Consumer<FoldedLetters>> changes = List.of(y -> y.fold(1, 0), y -> y.seal(1, 0), y -> y.press(0),
            y -> y.append('0'), y -> y.clearBuffer(), y -> y.undo());
        busy(x);
        long before = x.digest();
        for (int i = 0; i < changes.size(); i++) {
            fresh();
            busy(x);
            changes.get(i).accept(x);
            checks.same("change " + i + " is seen", "" + (x.digest() != before), "true");
        }
    }
}
