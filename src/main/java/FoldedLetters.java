/**
 * Five letters of four layers that are turned over and change places by folds. The document
 * DOC.md says what each call does; all rows are made here once, so that no call makes an object.
 */
public final class FoldedLetters {
    public static final int NONE = -10;

    private static final int LETTERS = 5;
    private static final int POSITIONS = 4;
    private static final int CREASES = 4;
    private static final int LONGEST_WORD = 16;
    private static final int LONGEST_PERIOD = 8;
    private static final int LONGEST_ASKED = 20;
    private static final int MOST_CREASES_TOLD = 1000;
    private static final int FIRST_CODE = 33;
    private static final int LAST_CODE = 126;
    private static final long HASH_START = 3733L;

    private static final int LENGTH = 0;
    private static final int REMEMBERED = 2;
    private static final int MIRROR = 4;
    private static final int FOLDS = 10;
    private static final int LAST_NUMBER = 10;
    private static final int LAST_COUNT = 6;

    private final Pile pile = new Pile();
    private final Pile snapshot = new Pile();
    private final History history = new History();
    private final Text buffer = new Text();
    private final Unrolled unrolled = new Unrolled();
    private final Walk walk = new Walk();
    private boolean snapshotTaken;

    public FoldedLetters() {
    }

    // ---- folds

    public int fold(int letter, int crease) throws IndexOutOfBoundsException, IllegalStateException {
        Letter folded = pile.at(letter);
        needCrease(crease);
        if (folded.reasonAgainst(crease) != 0) {
            throw new IllegalStateException("the fold can not be done");
        }
        history.push(pile);
        folded.foldOver(crease);
        return folded.number(LENGTH);
    }

    public int word(int letter) throws IndexOutOfBoundsException, IllegalArgumentException {
        Letter folded = pile.at(letter);
        needWord();
        history.push(pile);
        unrolled.read(buffer.codes());
        buffer.codes().clear();
        return folded.foldUpTo(unrolled.held());
    }

    public int unfold(int letter) throws IndexOutOfBoundsException, IllegalStateException {
        Letter unfolded = pile.at(letter);
        int latest = unfolded.latestCrease();
        if (latest == NONE) {
            throw new IllegalStateException("no fold is remembered");
        }
        if (unfolded.touchesSeal(latest)) {
            throw new IllegalStateException("the crease touches a sealed position");
        }
        history.push(pile);
        unfolded.takeBack(latest);
        return latest;
    }

    public int press(int letter) throws IndexOutOfBoundsException {
        Letter chosen = pile.at(letter);
        history.push(pile);
        int before = chosen.number(REMEMBERED);
        chosen.rememberLeastWord();
        return before - chosen.number(REMEMBERED);
    }

    public int smooth(int letter) throws IndexOutOfBoundsException {
        Letter chosen = pile.at(letter);
        history.push(pile);
        int before = chosen.number(LENGTH);
        chosen.layAfresh(Lie.FLAT);
        return before;
    }

    public int product(int letter, int first, int second) throws IndexOutOfBoundsException {
        Letter made = pile.at(letter);
        int lie = Lie.joined(pile.at(first).lie(), pile.at(second).lie());
        history.push(pile);
        made.layAfresh(lie);
        return made.number(LENGTH);
    }

    public int opposite(int letter, int other) throws IndexOutOfBoundsException {
        Letter made = pile.at(letter);
        int lie = Lie.reversed(pile.at(other).lie());
        history.push(pile);
        made.layAfresh(lie);
        return made.number(LENGTH);
    }

    public int seal(int letter, int position) throws IndexOutOfBoundsException, IllegalStateException {
        Letter chosen = pile.at(letter);
        needPosition(position);
        if (!chosen.isSealed(position) && !Lie.isHome(chosen.lie(), position)) {
            throw new IllegalStateException("the layer that belongs there does not lie there");
        }
        history.push(pile);
        chosen.changeSeal(position);
        return chosen.sealed();
    }

    // ---- texts, the snapshot

    public int append(int code) throws IllegalArgumentException, IllegalStateException {
        if (code < FIRST_CODE || code > LAST_CODE) {
            throw new IllegalArgumentException("no such character");
        }
        if (buffer.codes().isFull()) {
            throw new IllegalStateException("the buffer is full");
        }
        buffer.codes().add(code);
        return buffer.codes().size();
    }

    public int clearBuffer() {
        int before = buffer.codes().size();
        buffer.codes().clear();
        return before;
    }

    public int firstError() {
        return buffer.firstBad();
    }

    public int creases() throws IllegalArgumentException {
        needWord();
        unrolled.read(buffer.codes());
        return Math.min(unrolled.size(), MOST_CREASES_TOLD);
    }

    public int keep() {
        snapshot.copy(pile);
        snapshotTaken = true;
        return pile.together(LENGTH);
    }

    public int goBack() throws IllegalStateException {
        if (!snapshotTaken) {
            throw new IllegalStateException("there is no snapshot");
        }
        history.push(pile);
        pile.copy(snapshot);
        return pile.together(LENGTH);
    }

    public int undo() throws IllegalStateException {
        if (history.size() == 0) {
            throw new IllegalStateException("no state is saved");
        }
        history.pop(pile);
        return history.size();
    }

    // ---- looks; nothing is changed

    public int layer(int letter, int position) throws IndexOutOfBoundsException {
        Letter told = pile.at(letter);
        needPosition(position);
        return Lie.layerAt(told.lie(), position);
    }

    public int letter(int letter, int what) throws IndexOutOfBoundsException, IllegalArgumentException {
        Letter told = pile.at(letter);
        if (what < 0 || what > LAST_NUMBER) {
            throw new IllegalArgumentException("a letter has no such number");
        }
        return told.number(what);
    }

    public int crease(int letter, int place) throws IndexOutOfBoundsException {
        Letter told = pile.at(letter);
        needPlace(place);
        return told.remembered().at(place);
    }

    public int least(int letter, int place) throws IndexOutOfBoundsException {
        Letter told = pile.at(letter);
        needPlace(place);
        return Lie.leastCrease(told.lie(), place);
    }

    public int count(int what) throws IllegalArgumentException {
        switch (what) {
            case 0: return pile.together(FOLDS);
            case 1: return pile.flatLetters();
            case 2: return pile.together(MIRROR);
            case 3: return pile.together(LENGTH);
            case 4: return pile.sealedPositions();
            case 5: return pile.unlikeLies();
            case 6: return history.size();
            default: throw new IllegalArgumentException("there is no such count");
        }
    }

    // ---- what would be; nothing is changed

    public int why(int letter, int crease) throws IndexOutOfBoundsException {
        Letter told = pile.at(letter);
        needCrease(crease);
        return told.reasonAgainst(crease);
    }

    public int ifFolded(int letter, int crease) throws IndexOutOfBoundsException {
        Letter told = pile.at(letter);
        needCrease(crease);
        return Lie.length(Lie.folded(told.lie(), crease));
    }

    public int distance(int first, int second) throws IndexOutOfBoundsException {
        return Lie.lengthBetween(pile.at(first).lie(), pile.at(second).lie());
    }

    public int nearest(int letter) throws IndexOutOfBoundsException {
        int lie = pile.at(letter).lie();
        int found = NONE;
        int least = LONGEST_WORD + 1;
        for (int other = 0; other < LETTERS; other++) {
            int far = Lie.lengthBetween(lie, pile.at(other).lie());
            if (other != letter && far < least) {
                found = other;
                least = far;
            }
        }
        return found;
    }

    public int ways(int length, int what) throws IllegalArgumentException {
        if (length < 0 || length > LONGEST_ASKED) {
            throw new IllegalArgumentException("no such length is asked for");
        }
        if (what < 0 || what > 1) {
            throw new IllegalArgumentException("the ways are told in two ways alone");
        }
        return what == 0 ? waysAsSums(length) : walk.liesAfter(length);
    }

    public double pressed() {
        int remembered = pile.together(REMEMBERED);
        return remembered == 0 ? 1.0 : (double) pile.together(LENGTH) / remembered;
    }

    public float meanLength() {
        return (float) pile.together(LENGTH) / LETTERS;
    }

    public long digest() {
        long hash = HASH_START;
        for (int what = 0; what <= LAST_COUNT; what++) {
            hash = mixed(hash, count(what));
        }
        for (int letter = 0; letter < LETTERS; letter++) {
            hash = mixedLetter(hash, letter);
        }
        hash = mixed(hash, ways(letter(0, LENGTH), 0));
        hash = mixed(hash, ways(letter(0, LENGTH), 1));
        hash = mixed(hash, Bits.ofDouble(pressed()));
        hash = mixed(hash, Bits.ofFloat(meanLength()));
        hash = mixed(hash, snapshotTaken ? 1 : 0);
        hash = mixed(hash, buffer.codes().size());
        return mixedRow(hash, buffer.codes());
    }

    private static long mixed(long hash, long value) {
        return 31 * hash + value;
    }

    private long mixedLetter(long before, int letter) {
        long hash = before;
        for (int position = 0; position < POSITIONS; position++) {
            hash = mixed(hash, layer(letter, position));
        }
        for (int what = 0; what <= LAST_NUMBER; what++) {
            hash = mixed(hash, letter(letter, what));
        }
        hash = mixedRow(hash, pile.at(letter).remembered());
        hash = mixedLeastWord(hash, pile.at(letter).lie());
        for (int crease = 0; crease < CREASES; crease++) {
            hash = mixed(hash, why(letter, crease));
        }
        for (int crease = 0; crease < CREASES; crease++) {
            hash = mixed(hash, ifFolded(letter, crease));
        }
        for (int other = 0; other < LETTERS; other++) {
            hash = mixed(hash, distance(letter, other));
        }
        return mixed(hash, nearest(letter));
    }

    private static long mixedRow(long before, Row row) {
        long hash = before;
        for (int place = 0; place < row.size(); place++) {
            hash = mixed(hash, row.at(place));
        }
        return hash;
    }

    private static long mixedLeastWord(long before, int lie) {
        long hash = before;
        int length = Lie.length(lie);
        for (int place = 0; place < length; place++) {
            hash = mixed(hash, Lie.leastCrease(lie, place));
        }
        return hash;
    }

    private static int waysAsSums(int length) {
        int found = 0;
        for (int first = 0; first <= 1; first++) {
            for (int second = 0; second <= 3; second++) {
                for (int third = 0; third <= 5; third++) {
                    int fourth = length - first - second - third;
                    if (fourth >= 0 && fourth <= 7) {
                        found++;
                    }
                }
            }
        }
        return found;
    }

    private static void needCrease(int crease) {
        if (crease < 0 || crease >= CREASES) {
            throw new IndexOutOfBoundsException("there is no such crease");
        }
    }

    private static void needPosition(int position) {
        if (position < 0 || position >= POSITIONS) {
            throw new IndexOutOfBoundsException("there is no such position");
        }
    }

    private static void needPlace(int place) {
        if (place < 0) {
            throw new IndexOutOfBoundsException("the place is below 0");
        }
    }

    private void needWord() {
        if (!buffer.isWord()) {
            throw new IllegalArgumentException("the buffer is not a complete word");
        }
    }

    /**
     * How four layers lie, as one int, so that a lie can be made without making an object: three
     * bits for each position, the layer's number less 1, and 4 more if it is turned over.
     */
    private static final class Lie {
        private static final int WIDTH = 3;
        private static final int TURNED = 4;
        private static final int FIELD = 7;
        static final int FLAT = (1 << WIDTH) | (2 << (2 * WIDTH)) | (3 << (3 * WIDTH));

        static int layerAt(int lie, int position) {
            int field = (lie >> (WIDTH * position)) & FIELD;
            int number = (field & ~TURNED) + 1;
            return (field & TURNED) == 0 ? number : -number;
        }

        private static int fieldOf(int layer, int position) {
            int field = layer < 0 ? (-layer - 1) | TURNED : layer - 1;
            return field << (WIDTH * position);
        }

        static boolean isHome(int lie, int position) {
            return layerAt(lie, position) == position + 1;
        }

        static int folded(int lie, int crease) {
            if (crease == 0) {
                return lie ^ TURNED;
            }
            int above = WIDTH * (crease - 1);
            int below = WIDTH * crease;
            int unlike = ((lie >> above) ^ (lie >> below)) & FIELD;
            return lie ^ (unlike << above) ^ (unlike << below);
        }

        static int joined(int first, int second) {
            int lie = 0;
            for (int position = 0; position < POSITIONS; position++) {
                int from = layerAt(second, position);
                int layer = layerAt(first, Math.abs(from) - 1);
                lie |= fieldOf(from < 0 ? -layer : layer, position);
            }
            return lie;
        }

        static int reversed(int lie) {
            int opposite = 0;
            for (int position = 0; position < POSITIONS; position++) {
                int layer = layerAt(lie, position);
                int home = position + 1;
                opposite |= fieldOf(layer < 0 ? -home : home, Math.abs(layer) - 1);
            }
            return opposite;
        }

        static int length(int lie) {
            int pairs = 0;
            for (int q = 0; q < POSITIONS; q++) {
                int later = layerAt(lie, q);
                for (int p = 0; p <= q; p++) {
                    int earlier = layerAt(lie, p);
                    pairs += earlier > later ? 1 : 0;
                    pairs += earlier + later < 0 ? 1 : 0;
                }
            }
            return pairs;
        }

        static int lengthBetween(int first, int second) {
            return length(joined(reversed(first), second));
        }

        static boolean isShortenedBy(int lie, int crease) {
            if (crease == 0) {
                return layerAt(lie, 0) < 0;
            }
            return layerAt(lie, crease - 1) > layerAt(lie, crease);
        }

        /** NONE for the flat one, and for it alone. */
        static int firstShortening(int lie) {
            for (int crease = 0; crease < CREASES; crease++) {
                if (isShortenedBy(lie, crease)) {
                    return crease;
                }
            }
            return NONE;
        }

        static int shorteningMask(int lie) {
            int mask = 0;
            for (int crease = 0; crease < CREASES; crease++) {
                mask |= isShortenedBy(lie, crease) ? 1 << crease : 0;
            }
            return mask;
        }

        static int foldsBack(int lie) {
            int rest = lie;
            int done = 0;
            while (done < LONGEST_WORD && rest != FLAT) {
                rest = folded(rest, firstShortening(rest));
                done++;
            }
            return done;
        }

        /**
         * The word of the opposite is the word backwards: what shortens the opposite at its end
         * is what a least word can begin with.
         */
        static int leastCrease(int lie, int place) {
            int rest = reversed(lie);
            for (int done = 0; done < place && rest != FLAT; done++) {
                rest = folded(rest, firstShortening(rest));
            }
            return firstShortening(rest);
        }

        static int period(int lie) {
            int power = lie;
            int times = 1;
            while (times < LONGEST_PERIOD && power != FLAT) {
                power = joined(power, lie);
                times++;
            }
            return times;
        }

        /** Not by isHome(), as calls go at most eight deep, and this one is deep below digest(). */
        static int layersHome(int lie) {
            int found = 0;
            for (int position = 0; position < POSITIONS; position++) {
                found += layerAt(lie, position) == position + 1 ? 1 : 0;
            }
            return found;
        }

        static int layersTurned(int lie) {
            int found = 0;
            for (int position = 0; position < POSITIONS; position++) {
                found += layerAt(lie, position) < 0 ? 1 : 0;
            }
            return found;
        }

        /**
         * A mirror turns over one layer that stays in its place, or lets two change places, both
         * of them turned over or neither. Of all lies with two layers or more at home, these are
         * the ones whose length is odd.
         */
        static boolean isMirror(int lie) {
            return layersHome(lie) >= POSITIONS - 2 && (length(lie) & 1) == 1;
        }
    }

    /** Numbers in their order; the document has 60 as the most of each row that is kept. */
    private static final class Row {
        private static final int MOST = 60;

        private final int[] values = new int[MOST];
        private int size;

        int size() {
            return size;
        }

        boolean isFull() {
            return size >= values.length;
        }

        int at(int place) {
            return place >= 0 && place < size && place < values.length ? values[place] : NONE;
        }

        /** Beyond the most a value is left out. */
        void add(int value) {
            if (size >= 0 && size < values.length) {
                values[size] = value;
                size++;
            }
        }

        void dropLast() {
            if (size > 0) {
                size--;
            }
        }

        void clear() {
            size = 0;
        }

        void copy(Row other) {
            clear();
            for (int place = 0; place < other.size && place < values.length; place++) {
                add(other.at(place));
            }
        }
    }

    private static final class Letter {
        private final Row remembered = new Row();
        private int lie = Lie.FLAT;
        private int seals;
        private int folds;

        void copy(Letter other) {
            remembered.copy(other.remembered);
            lie = other.lie;
            seals = other.seals;
            folds = other.folds;
        }

        int lie() {
            return lie;
        }

        Row remembered() {
            return remembered;
        }

        int latestCrease() {
            return remembered.at(remembered.size() - 1);
        }

        int reasonAgainst(int crease) {
            if (remembered.isFull()) {
                return 1;
            }
            return touchesSeal(crease) ? 2 : 0;
        }

        boolean touchesSeal(int crease) {
            int touched = crease == 0 ? 1 : 3 << (crease - 1);
            return (seals & touched) != 0;
        }

        void foldOver(int crease) {
            lie = Lie.folded(lie, crease);
            folds++;
            remembered.add(crease);
        }

        int foldUpTo(Row creases) {
            int done = 0;
            while (done < creases.size() && reasonAgainst(creases.at(done)) == 0) {
                foldOver(creases.at(done));
                done++;
            }
            return done;
        }

        void takeBack(int latest) {
            lie = Lie.folded(lie, latest);
            folds++;
            remembered.dropLast();
        }

        void rememberLeastWord() {
            int length = Lie.length(lie);
            remembered.clear();
            for (int place = 0; place < length; place++) {
                remembered.add(Lie.leastCrease(lie, place));
            }
        }

        void layAfresh(int newLie) {
            lie = newLie;
            seals = 0;
            rememberLeastWord();
        }

        boolean isSealed(int position) {
            return ((seals >> position) & 1) == 1;
        }

        void changeSeal(int position) {
            seals ^= 1 << position;
        }

        int sealed() {
            return Integer.bitCount(seals);
        }

        private int barredMask() {
            int mask = 0;
            for (int crease = 0; crease < CREASES; crease++) {
                mask |= reasonAgainst(crease) == 0 ? 0 : 1 << crease;
            }
            return mask;
        }

        int number(int what) {
            switch (what) {
                case LENGTH: return Lie.length(lie);
                case 1: return Lie.foldsBack(lie);
                case REMEMBERED: return remembered.size();
                case 3: return Lie.period(lie);
                case MIRROR: return Lie.isMirror(lie) ? 1 : 0;
                case 5: return Lie.layersHome(lie);
                case 6: return Lie.layersTurned(lie);
                case 7: return seals;
                case 8: return Lie.shorteningMask(lie);
                case 9: return barredMask();
                case FOLDS: return folds;
                default: return NONE;
            }
        }
    }

    /** All that undo() restores. */
    private static final class Pile {
        private final Letter[] letters = new Letter[LETTERS];

        Pile() {
            for (int index = 0; index < letters.length; index++) {
                letters[index] = new Letter();
            }
        }

        Letter at(int index) {
            if (index < 0 || index >= letters.length) {
                throw new IndexOutOfBoundsException("there is no such letter");
            }
            return letters[index];
        }

        void copy(Pile other) {
            for (int index = 0; index < letters.length; index++) {
                letters[index].copy(other.at(index));
            }
        }

        int together(int what) {
            int sum = 0;
            for (int index = 0; index < letters.length; index++) {
                sum += letters[index].number(what);
            }
            return sum;
        }

        int flatLetters() {
            int found = 0;
            for (int index = 0; index < letters.length; index++) {
                found += letters[index].lie() == Lie.FLAT ? 1 : 0;
            }
            return found;
        }

        int sealedPositions() {
            int found = 0;
            for (int index = 0; index < letters.length; index++) {
                found += letters[index].sealed();
            }
            return found;
        }

        int unlikeLies() {
            int found = 0;
            for (int index = 0; index < letters.length; index++) {
                found += liesAsOneBefore(index) ? 0 : 1;
            }
            return found;
        }

        private boolean liesAsOneBefore(int index) {
            for (int before = 0; before < index; before++) {
                if (at(before).lie() == at(index).lie()) {
                    return true;
                }
            }
            return false;
        }
    }

    /** The saved states, the oldest one first. */
    private static final class History {
        private static final int MOST_SAVED = 6;

        private final Pile[] saved = new Pile[MOST_SAVED];
        private int size;

        History() {
            for (int index = 0; index < saved.length; index++) {
                saved[index] = new Pile();
            }
        }

        int size() {
            return size;
        }

        void push(Pile state) {
            if (size >= saved.length) {
                dropOldest();
            }
            if (size >= 0 && size < saved.length) {
                saved[size].copy(state);
                size++;
            }
        }

        void pop(Pile state) {
            if (size > 0 && size <= saved.length) {
                size--;
                state.copy(saved[size]);
            }
        }

        /** The dropped pile stands last then, to be used again. */
        private void dropOldest() {
            for (int index = 1; index < saved.length; index++) {
                Pile oldest = saved[index - 1];
                saved[index - 1] = saved[index];
                saved[index] = oldest;
            }
            size--;
        }
    }

    private static final class Text {
        private final Row codes = new Row();
        private final Reader reader = new Reader();

        Row codes() {
            return codes;
        }

        /** Leaves the reader behind the last character that it took. */
        int firstBad() {
            reader.start();
            for (int index = 0; index < codes.size(); index++) {
                if (!reader.takes(codes.at(index))) {
                    return index;
                }
            }
            return codes.size();
        }

        boolean isWord() {
            return firstBad() == codes.size() && reader.mayStop();
        }
    }

    /** Takes a word as a text character by character, as long as one can begin so. */
    private static final class Reader {
        private static final int DEEPEST = 5;
        private static final int ITEM = 0;
        private static final int ITEM_OR_END = 1;
        private static final int FIGURE = 2;

        private int open;
        private int wanted;

        void start() {
            open = 0;
            wanted = ITEM;
        }

        boolean mayStop() {
            return open == 0 && wanted == ITEM_OR_END;
        }

        boolean takes(int code) {
            if (wanted == FIGURE) {
                return takesIf(code >= '2' && code <= '9', 0, ITEM_OR_END);
            }
            if (code == '(') {
                return takesIf(open < DEEPEST, 1, ITEM);
            }
            if (code == ')') {
                return takesIf(open > 0 && wanted == ITEM_OR_END, -1, FIGURE);
            }
            return takesIf(code >= '0' && code <= '3', 0, ITEM_OR_END);
        }

        private boolean takesIf(boolean fits, int opened, int wantedThen) {
            if (fits) {
                open += opened;
                wanted = wantedThen;
            }
            return fits;
        }
    }

    /**
     * A complete word without its brackets. Its size is told whole, but only the creases that a
     * row can take are held: a letter remembers no more, and so no more of them can be folded.
     */
    private static final class Unrolled {
        private final Row held = new Row();
        private final int[] heldBefore = new int[Reader.DEEPEST];
        private final int[] sizeBefore = new int[Reader.DEEPEST];
        private int open;
        private int size;

        Row held() {
            return held;
        }

        /** Below 60 times 9 to the power 5 for 60 characters, and so never too large. */
        int size() {
            return size;
        }

        void read(Row codes) {
            open = 0;
            size = 0;
            held.clear();
            for (int index = 0; index < codes.size(); index++) {
                int code = codes.at(index);
                if (codes.at(index - 1) == ')') {
                    repeatLast(code - '0');
                } else if (code == '(') {
                    openBracket();
                } else if (code != ')') {
                    size++;
                    held.add(code - '0');
                }
            }
        }

        private void openBracket() {
            if (open >= 0 && open < heldBefore.length && open < sizeBefore.length) {
                heldBefore[open] = held.size();
                sizeBefore[open] = size;
                open++;
            }
        }

        private void repeatLast(int times) {
            if (open <= 0 || open > heldBefore.length || open > sizeBefore.length) {
                return;
            }
            open--;
            size += (size - sizeBefore[open]) * (times - 1);
            int body = held.size() - heldBefore[open];
            for (int left = body * (times - 1); left > 0 && !held.isFull(); left--) {
                held.add(held.at(held.size() - body));
            }
        }
    }

    /** Goes from the flat lie to all others, fold by fold, once, when it is first asked. */
    private static final class Walk {
        private static final int ALL_LIES = 384;

        private final int[] met = new int[ALL_LIES];
        private final int[] foldsTo = new int[ALL_LIES];
        private final int[] found = new int[LONGEST_ASKED + 1];
        private int known;

        int liesAfter(int folds) {
            if (known == 0) {
                go();
            }
            return folds >= 0 && folds < found.length ? found[folds] : 0;
        }

        /** No lie is met twice: just one crease leads to it and is the first that shortens it. */
        private void go() {
            meet(Lie.FLAT, 0);
            for (int from = 0; from < known && from < met.length && from < foldsTo.length; from++) {
                for (int crease = 0; crease < CREASES; crease++) {
                    int next = Lie.folded(met[from], crease);
                    if (Lie.firstShortening(next) == crease) {
                        meet(next, foldsTo[from] + 1);
                    }
                }
            }
        }

        private void meet(int lie, int folds) {
            boolean hasRoom = known >= 0 && known < met.length && known < foldsTo.length;
            if (hasRoom && folds >= 0 && folds < found.length) {
                met[known] = lie;
                foldsTo[known] = folds;
                found[folds]++;
                known++;
            }
        }
    }

    /** The bits of a number that is not below 0, as the library that is left to us has no call for them. */
    private static final class Bits {
        private static final int FRACTION = 52;
        private static final int EXPONENT_OF_ONE = 1023;
        private static final int EXPONENT_OF_ONE_AS_FLOAT = 127;
        private static final int FRACTION_OF_FLOAT = 23;
        private static final int MOST_STEPS = 1000;

        static long ofDouble(double value) {
            if (value <= 0.0) {
                return 0L;
            }
            double scaled = value;
            long exponent = EXPONENT_OF_ONE;
            for (int steps = 0; steps < MOST_STEPS && scaled >= 2.0; steps++) {
                scaled = scaled / 2.0;
                exponent++;
            }
            for (int steps = 0; steps < MOST_STEPS && scaled < 1.0; steps++) {
                scaled = scaled * 2.0;
                exponent--;
            }
            return (exponent << FRACTION) | (long) ((scaled - 1.0) * (double) (1L << FRACTION));
        }

        /** Each float is a double too, whose fraction ends in zeros. */
        static int ofFloat(float value) {
            long bits = ofDouble(value);
            if (bits == 0L) {
                return 0;
            }
            long exponent = (bits >> FRACTION) - EXPONENT_OF_ONE + EXPONENT_OF_ONE_AS_FLOAT;
            long mask = (1L << FRACTION_OF_FLOAT) - 1L;
            long fraction = (bits >> (FRACTION - FRACTION_OF_FLOAT)) & mask;
            return (int) ((exponent << FRACTION_OF_FLOAT) | fraction);
        }
    }
}
