import java.util.List;
import java.util.Random;
import java.util.function.LongSupplier;

/** Plays the same calls on the class and on the model; after each one the digests must agree too. */
public final class ModelTest {
    private static final int OBJECTS = 500;
    private static final int CALLS = 512;

    private final Checks checks = new Checks();
    private final Random random = new Random(3733);
    private FoldedLetters x;
    private Model m;
    private int lettersUsed;
    private int calls;

    public static void main(String[] args) {
        new ModelTest().run();
    }

    private void run() {
        everyLie();
        for (int object = 0; object < OBJECTS && checks.failed() == 0; object++) {
            start();
            lettersUsed = 1 + random.nextInt(5);
            int style = random.nextInt(4);
            while (calls < CALLS && checks.failed() == 0) {
                String name = "object " + object + ", call " + calls + ": ";
                oneCall(name, style);
                both(name + "digest()", () -> x.digest(), () -> m.digest());
            }
        }
        checks.end("ModelTest");
    }

    private void start() {
        x = new FoldedLetters();
        m = new Model();
        calls = 0;
    }

    /** What comes after an object's last call is free, and so is not asked. */
    private void both(String what, LongSupplier mine, LongSupplier due) {
        if (calls < CALLS) {
            calls++;
            checks.same(what, Checks.answer(mine), Checks.answer(due));
        }
    }

    private void everyLie() {
        for (List<Integer> word : Model.leastWords()) {
            start();
            for (int crease : word) {
                both(word + " fold", () -> x.fold(0, crease), () -> m.fold(0, crease));
            }
            both(word + " opposite", () -> x.opposite(1, 0), () -> m.opposite(1, 0));
            both(word + " product", () -> x.product(2, 0, 0), () -> m.product(2, 0, 0));
            both(word + " flat", () -> x.product(3, 1, 0), () -> m.product(3, 1, 0));
            both(word + " fold", () -> x.fold(4, 1), () -> m.fold(4, 1));
            both(word + " product", () -> x.product(4, 0, 4), () -> m.product(4, 0, 4));
            both(word + " digest", () -> x.digest(), () -> m.digest());
            both(word + " product", () -> x.product(4, 4, 1), () -> m.product(4, 4, 1));
            both(word + " mirror", () -> x.letter(4, 4), () -> 1);
        }
    }

    /** Mostly within bounds, sometimes just or far outside. */
    private int number(int bound) {
        int dice = random.nextInt(40);
        if (dice == 0) {
            return -1 - random.nextInt(2);
        }
        if (dice == 1) {
            return bound + random.nextInt(2);
        }
        if (dice == 2 && random.nextInt(4) == 0) {
            return random.nextBoolean() ? Integer.MIN_VALUE : Integer.MAX_VALUE;
        }
        return random.nextInt(bound);
    }

    private int letter() {
        return random.nextInt(6) == 0 ? number(5) : random.nextInt(lettersUsed);
    }

    private void oneCall(String name, int style) {
        int dice = random.nextInt(100);
        if (style == 0 && dice < 40 || style != 0 && dice < 15) {
            int l = letter();
            int c = number(4);
            both(name + "fold(" + l + ", " + c + ")", () -> x.fold(l, c), () -> m.fold(l, c));
        } else if (dice < 55) {
            changeOnce(name, style);
        } else if (dice < 75) {
            textOnce(name, style);
        } else {
            lookOnce(name);
        }
    }

    private void changeOnce(String name, int style) {
        int l = letter();
        int a = letter();
        int b = letter();
        int p = number(4);
        switch (random.nextInt(style == 1 ? 14 : 11)) {
            case 0: both(name + "unfold " + l, () -> x.unfold(l), () -> m.unfold(l)); break;
            case 1: both(name + "press " + l, () -> x.press(l), () -> m.press(l)); break;
            case 2: both(name + "smooth " + l, () -> x.smooth(l), () -> m.smooth(l)); break;
            case 3: both(name + "product " + l + " " + a + " " + b,
                () -> x.product(l, a, b), () -> m.product(l, a, b)); break;
            case 4: both(name + "opposite " + l + " " + a,
                () -> x.opposite(l, a), () -> m.opposite(l, a)); break;
            case 5: both(name + "keep", () -> x.keep(), () -> m.keep()); break;
            case 6: both(name + "goBack", () -> x.goBack(), () -> m.goBack()); break;
            case 7: case 8: both(name + "undo", () -> x.undo(), () -> m.undo()); break;
            case 9: both(name + "unfold " + l, () -> x.unfold(l), () -> m.unfold(l)); break;
            default: both(name + "seal " + l + " " + p, () -> x.seal(l, p), () -> m.seal(l, p));
        }
    }

    private void textOnce(String name, int style) {
        int dice = random.nextInt(10);
        int l = letter();
        if (dice < 5) {
            String text = style == 2 ? scraps() : item(5);
            for (int i = 0; i < text.length(); i++) {
                int code = text.charAt(i);
                both(name + "append(" + code + ")", () -> x.append(code), () -> m.append(code));
            }
        } else if (dice == 5) {
            both(name + "clearBuffer", () -> x.clearBuffer(), () -> m.clearBuffer());
        } else if (dice == 6) {
            int code = number(127);
            both(name + "append(" + code + ")", () -> x.append(code), () -> m.append(code));
        }
        both(name + "firstError", () -> x.firstError(), () -> m.firstError());
        both(name + "creases", () -> x.creases(), () -> m.creases());
        if (dice != 5 && dice % 2 == 1) {
            both(name + "word " + l, () -> x.word(l), () -> m.word(l));
        }
        if (m.firstError() < 60 && random.nextInt(3) == 0) {
            both(name + "clearBuffer", () -> x.clearBuffer(), () -> m.clearBuffer());
        }
    }

    private String item(int depth) {
        StringBuilder text = new StringBuilder();
        for (int items = 1 + random.nextInt(3); items > 0; items--) {
            if (depth > 0 && random.nextInt(3) == 0) {
                text.append('(').append(item(depth - 1)).append(')').append(2 + random.nextInt(8));
            } else {
                text.append(random.nextInt(4));
            }
        }
        return text.toString();
    }

    private String scraps() {
        String[] pieces = {"(", "(", "(", ")", ")2", ")3", ")9", "0", "1", "2", "3", "4", "9", ")1", "*", "/", ":"};
        StringBuilder text = new StringBuilder();
        for (int left = 1 + random.nextInt(9); left > 0; left--) {
            text.append(pieces[random.nextInt(pieces.length)]);
        }
        return text.toString();
    }

    private void lookOnce(String name) {
        int l = letter();
        int o = letter();
        int p = number(4);
        int place = number(20);
        switch (random.nextInt(11)) {
            case 0: both(name + "layer", () -> x.layer(l, p), () -> m.layer(l, p)); break;
            case 1: int what = number(11);
                both(name + "letter", () -> x.letter(l, what), () -> m.letter(l, what)); break;
            case 2: both(name + "crease", () -> x.crease(l, place), () -> m.crease(l, place)); break;
            case 3: both(name + "least", () -> x.least(l, place), () -> m.least(l, place)); break;
            case 4: int count = number(7);
                both(name + "count", () -> x.count(count), () -> m.count(count)); break;
            case 5: both(name + "why", () -> x.why(l, p), () -> m.why(l, p)); break;
            case 6: both(name + "ifFolded", () -> x.ifFolded(l, p), () -> m.ifFolded(l, p)); break;
            case 7: both(name + "distance", () -> x.distance(l, o), () -> m.distance(l, o)); break;
            case 8: both(name + "nearest", () -> x.nearest(l), () -> m.nearest(l)); break;
            case 9: int length = number(21);
                int way = number(2);
                both(name + "ways", () -> x.ways(length, way), () -> m.ways(length, way)); break;
            default:
                both(name + "pressed", () -> Double.doubleToRawLongBits(x.pressed()),
                    () -> Double.doubleToRawLongBits(m.pressed()));
                both(name + "meanLength", () -> Float.floatToRawIntBits(x.meanLength()),
                    () -> Float.floatToRawIntBits(m.meanLength()));
        }
    }
}
