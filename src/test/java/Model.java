import java.util.ArrayDeque;
import java.util.ArrayList;
import java.util.Arrays;
import java.util.Comparator;
import java.util.Deque;
import java.util.HashMap;
import java.util.HashSet;
import java.util.List;
import java.util.Map;
import java.util.Set;
import java.util.regex.Matcher;
import java.util.regex.Pattern;

/**
 * The document told once more, by its definitions and with another build than the class: lies are
 * lists, lengths and least words come from going through all words, products and mirrors from
 * folding words, texts from regular expressions. Slow and plain.
 */
final class Model {
    static final int NONE = -10;

    /** For each lie its first least word; words are met in their order of length and creases. */
    private static final Map<List<Integer>, List<Integer>> LEAST = new HashMap<>();
    private static final Set<List<Integer>> MIRRORS = new HashSet<>();
    private static final Pattern WORD;

    static {
        Deque<List<Integer>> words = new ArrayDeque<>();
        words.add(List.of());
        LEAST.put(flat(), List.of());
        while (!words.isEmpty()) {
            List<Integer> word = words.poll();
            for (int crease = 0; crease < 4; crease++) {
                List<Integer> longer = new ArrayList<>(word);
                longer.add(crease);
                if (LEAST.putIfAbsent(foldedBy(flat(), longer), longer) == null) {
                    words.add(longer);
                }
            }
        }
        for (List<Integer> word : LEAST.values()) {
            for (int crease = 0; crease < 4; crease++) {
                List<Integer> whole = new ArrayList<>(word);
                whole.add(crease);
                whole.addAll(backwards(word));
                MIRRORS.add(foldedBy(flat(), whole));
            }
        }
        String inner = "[0-3]+";
        for (int depth = 0; depth < 5; depth++) {
            inner = "(?:[0-3]|\\(" + inner + "\\)[2-9])+";
        }
        WORD = Pattern.compile(inner);
    }

    static final class Letter {
        List<Integer> lie = flat();
        List<Integer> remembered = new ArrayList<>();
        Set<Integer> seals = new HashSet<>();
        int folds = 0;

        Letter copy() {
            Letter other = new Letter();
            other.lie = new ArrayList<>(lie);
            other.remembered = new ArrayList<>(remembered);
            other.seals = new HashSet<>(seals);
            other.folds = folds;
            return other;
        }
    }

    private List<Letter> letters = new ArrayList<>();
    private List<Letter> snapshot = null;
    private final List<List<Letter>> saved = new ArrayList<>();
    private String buffer = "";

    Model() {
        for (int i = 0; i < 5; i++) {
            letters.add(new Letter());
        }
    }

    static List<Integer> flat() {
        return new ArrayList<>(Arrays.asList(1, 2, 3, 4));
    }

    static List<Integer> foldedBy(List<Integer> lie, List<Integer> word) {
        List<Integer> folded = new ArrayList<>(lie);
        for (int crease : word) {
            if (crease == 0) {
                folded.set(0, -folded.get(0));
            } else {
                int kept = folded.get(crease);
                folded.set(crease, folded.get(crease - 1));
                folded.set(crease - 1, kept);
            }
        }
        return folded;
    }

    static List<Integer> backwards(List<Integer> word) {
        List<Integer> turned = new ArrayList<>();
        for (int crease : word) {
            turned.add(0, crease);
        }
        return turned;
    }

    static Iterable<List<Integer>> leastWords() {
        return LEAST.values();
    }

    static List<Integer> least(List<Integer> lie) {
        return LEAST.get(lie);
    }

    static int length(List<Integer> lie) {
        return LEAST.get(lie).size();
    }

    private static List<Letter> copies(List<Letter> all) {
        List<Letter> made = new ArrayList<>();
        for (Letter letter : all) {
            made.add(letter.copy());
        }
        return made;
    }

    private void save() {
        saved.add(copies(letters));
        if (saved.size() > 6) {
            saved.remove(0);
        }
    }

    private Letter at(int letter) {
        need(letter >= 0 && letter <= 4);
        return letters.get(letter);
    }

    private static void need(boolean inBounds) {
        if (!inBounds) {
            throw new IndexOutOfBoundsException();
        }
    }

    private static void needState(boolean fits) {
        if (!fits) {
            throw new IllegalStateException();
        }
    }

    private static void needArgument(boolean fits) {
        if (!fits) {
            throw new IllegalArgumentException();
        }
    }

    private static boolean touches(Letter letter, int crease) {
        return crease == 0 ? letter.seals.contains(0)
            : letter.seals.contains(crease - 1) || letter.seals.contains(crease);
    }

    private static int reason(Letter letter, int crease) {
        return letter.remembered.size() == 60 ? 1 : touches(letter, crease) ? 2 : 0;
    }

    private static void doFold(Letter letter, int crease) {
        letter.lie = foldedBy(letter.lie, List.of(crease));
        letter.remembered.add(crease);
        letter.folds++;
    }

    int fold(int letter, int crease) {
        Letter l = at(letter);
        need(crease >= 0 && crease <= 3);
        needState(reason(l, crease) == 0);
        save();
        doFold(l, crease);
        return length(l.lie);
    }

    int word(int letter) {
        Letter l = at(letter);
        needArgument(isWord(buffer));
        save();
        int done = 0;
        for (int crease : unrolled(buffer, 100)) {
            if (reason(l, crease) != 0) {
                break;
            }
            doFold(l, crease);
            done++;
        }
        buffer = "";
        return done;
    }

    int unfold(int letter) {
        Letter l = at(letter);
        needState(!l.remembered.isEmpty());
        int latest = l.remembered.get(l.remembered.size() - 1);
        needState(!touches(l, latest));
        save();
        l.lie = foldedBy(l.lie, List.of(latest));
        l.remembered.remove(l.remembered.size() - 1);
        l.folds++;
        return latest;
    }

    int press(int letter) {
        Letter l = at(letter);
        save();
        int before = l.remembered.size();
        l.remembered = new ArrayList<>(least(l.lie));
        return before - l.remembered.size();
    }

    int smooth(int letter) {
        Letter l = at(letter);
        save();
        int before = length(l.lie);
        lay(l, flat());
        return before;
    }

    private static void lay(Letter letter, List<Integer> lie) {
        letter.lie = lie;
        letter.remembered = new ArrayList<>(least(lie));
        letter.seals.clear();
    }

    int product(int letter, int first, int second) {
        Letter l = at(letter);
        List<Integer> lie = foldedBy(at(first).lie, least(at(second).lie));
        save();
        lay(l, lie);
        return length(lie);
    }

    int opposite(int letter, int other) {
        Letter l = at(letter);
        List<Integer> lie = foldedBy(flat(), backwards(least(at(other).lie)));
        save();
        lay(l, lie);
        return length(lie);
    }

    int seal(int letter, int position) {
        Letter l = at(letter);
        need(position >= 0 && position <= 3);
        needState(l.seals.contains(position) || l.lie.get(position) == position + 1);
        save();
        if (!l.seals.remove(position)) {
            l.seals.add(position);
        }
        return l.seals.size();
    }

    int append(int code) {
        needArgument(code >= 33 && code <= 126);
        needState(buffer.length() < 60);
        buffer += (char) code;
        return buffer.length();
    }

    int clearBuffer() {
        int before = buffer.length();
        buffer = "";
        return before;
    }

    static boolean isWord(String text) {
        return WORD.matcher(text).matches();
    }

    /** Whether some word begins so: if one does, then one that goes on in one of these ways. */
    private static boolean beginsWord(String text) {
        for (String next : List.of("", "0", "2")) {
            String end = next;
            for (int closed = 0; closed <= 5; closed++) {
                if (isWord(text + end)) {
                    return true;
                }
                end += ")2";
            }
        }
        return false;
    }

    int firstError() {
        for (int i = 0; i < buffer.length(); i++) {
            if (!beginsWord(buffer.substring(0, i + 1))) {
                return i;
            }
        }
        return buffer.length();
    }

    /** The first creases of the word, the innermost brackets resolved first. */
    static List<Integer> unrolled(String text, int most) {
        Pattern innermost = Pattern.compile("\\(([0-3]+)\\)([2-9])");
        String rest = text;
        Matcher found = innermost.matcher(rest);
        while (found.find()) {
            String body = found.group(1).repeat(found.group(2).charAt(0) - '0');
            String kept = body.length() > most ? body.substring(0, most) : body;
            rest = rest.substring(0, found.start()) + kept + rest.substring(found.end());
            found = innermost.matcher(rest);
        }
        List<Integer> word = new ArrayList<>();
        for (int i = 0; i < rest.length() && i < most; i++) {
            word.add(rest.charAt(i) - '0');
        }
        return word;
    }

    int creases() {
        needArgument(isWord(buffer));
        return Math.min(1000, unrolled(buffer, 1001).size());
    }

    private int lengths() {
        int sum = 0;
        for (Letter l : letters) {
            sum += length(l.lie);
        }
        return sum;
    }

    int keep() {
        snapshot = copies(letters);
        return lengths();
    }

    int goBack() {
        needState(snapshot != null);
        save();
        letters = copies(snapshot);
        return lengths();
    }

    int undo() {
        needState(!saved.isEmpty());
        letters = saved.remove(saved.size() - 1);
        return saved.size();
    }

    int layer(int letter, int position) {
        Letter l = at(letter);
        need(position >= 0 && position <= 3);
        return l.lie.get(position);
    }

    int letter(int letter, int what) {
        Letter l = at(letter);
        needArgument(what >= 0 && what <= 10);
        int home = 0;
        int turned = 0;
        int sealed = 0;
        int shorter = 0;
        int barred = 0;
        for (int i = 0; i < 4; i++) {
            home += l.lie.get(i) == i + 1 ? 1 : 0;
            turned += l.lie.get(i) < 0 ? 1 : 0;
            sealed += l.seals.contains(i) ? 1 << i : 0;
            shorter += ifFolded(letter, i) < length(l.lie) ? 1 << i : 0;
            barred += reason(l, i) != 0 ? 1 << i : 0;
        }
        int[] all = {length(l.lie), length(l.lie), l.remembered.size(), period(l.lie),
            MIRRORS.contains(l.lie) ? 1 : 0, home, turned, sealed, shorter, barred, l.folds};
        return all[what];
    }

    private static int period(List<Integer> lie) {
        int times = 1;
        List<Integer> power = lie;
        while (!power.equals(flat())) {
            power = foldedBy(power, least(lie));
            times++;
        }
        return times;
    }

    int crease(int letter, int place) {
        Letter l = at(letter);
        need(place >= 0);
        return place < l.remembered.size() ? l.remembered.get(place) : NONE;
    }

    int least(int letter, int place) {
        Letter l = at(letter);
        need(place >= 0);
        return place < length(l.lie) ? least(l.lie).get(place) : NONE;
    }

    int count(int what) {
        needArgument(what >= 0 && what <= 6);
        int folds = 0;
        int flats = 0;
        int mirrors = 0;
        int seals = 0;
        Set<List<Integer>> unlike = new HashSet<>();
        for (Letter l : letters) {
            folds += l.folds;
            flats += l.lie.equals(flat()) ? 1 : 0;
            mirrors += MIRRORS.contains(l.lie) ? 1 : 0;
            seals += l.seals.size();
            unlike.add(l.lie);
        }
        int[] all = {folds, flats, mirrors, lengths(), seals, unlike.size(), saved.size()};
        return all[what];
    }

    int why(int letter, int crease) {
        Letter l = at(letter);
        need(crease >= 0 && crease <= 3);
        return reason(l, crease);
    }

    int ifFolded(int letter, int crease) {
        Letter l = at(letter);
        need(crease >= 0 && crease <= 3);
        return length(foldedBy(l.lie, List.of(crease)));
    }

    int distance(int first, int second) {
        Letter one = at(first);
        Letter two = at(second);
        List<Integer> opposite = foldedBy(flat(), backwards(least(one.lie)));
        return length(foldedBy(opposite, least(two.lie)));
    }

    int nearest(int letter) {
        at(letter);
        List<Integer> others = new ArrayList<>(List.of(0, 1, 2, 3, 4));
        others.remove((Integer) letter);
        others.sort(Comparator.comparing((Integer other) -> distance(letter, other)));
        return others.get(0);
    }

    int ways(int length, int what) {
        needArgument(length >= 0 && length <= 20 && what >= 0 && what <= 1);
        int found = 0;
        for (List<Integer> word : LEAST.values()) {
            found += word.size() == length ? 1 : 0;
        }
        return found;
    }

    double pressed() {
        int all = 0;
        for (Letter l : letters) {
            all += l.remembered.size();
        }
        return all == 0 ? 1.0 : (double) lengths() / all;
    }

    float meanLength() {
        return (float) lengths() / 5;
    }

    long digest() {
        List<Long> values = new ArrayList<>();
        for (int what = 0; what <= 6; what++) {
            values.add((long) count(what));
        }
        for (int l = 0; l < 5; l++) {
            listLetter(values, l);
        }
        values.add((long) ways(letter(0, 0), 0));
        values.add((long) ways(letter(0, 0), 1));
        values.add(Double.doubleToLongBits(pressed()));
        values.add((long) Float.floatToIntBits(meanLength()));
        values.add(snapshot != null ? 1L : 0L);
        values.add((long) buffer.length());
        for (int i = 0; i < buffer.length(); i++) {
            values.add((long) buffer.charAt(i));
        }
        long hash = 3733;
        for (long value : values) {
            hash = 31 * hash + value;
        }
        return hash;
    }

    private void listLetter(List<Long> values, int l) {
        for (int p = 0; p < 4; p++) {
            values.add((long) layer(l, p));
        }
        for (int what = 0; what <= 10; what++) {
            values.add((long) letter(l, what));
        }
        for (int crease : letters.get(l).remembered) {
            values.add((long) crease);
        }
        for (int crease : least(letters.get(l).lie)) {
            values.add((long) crease);
        }
        for (int c = 0; c < 4; c++) {
            values.add((long) why(l, c));
        }
        for (int c = 0; c < 4; c++) {
            values.add((long) ifFolded(l, c));
        }
        for (int other = 0; other < 5; other++) {
            values.add((long) distance(l, other));
        }
        values.add((long) nearest(l));
    }
}
