import java.util.ArrayList;
import java.util.HashMap;
import java.util.List;
import java.util.Map;

/**
 * The document once more, told with lists and texts and without a thought for cost: what
 * StenoChords answers is compared with it. It shares no idea with the class: rows are lists, texts
 * are looked at as the beginnings of all that can be typed, states are whole copies.
 */
final class Model {
    private static final String LETTERS = "stkpaoerld";

    private static final class Entry {
        List<Integer> row = new ArrayList<>();
        int word;
        int picked;
    }

    private static final class Item {
        int place;
        int length;
        int entry;
    }

    private static final class State {
        List<Integer> paper = new ArrayList<>();
        List<Entry> entries = new ArrayList<>();
        int[] settings = {0, 4};
        int struck;
        int eaten;
        int asterisks;
        int keys;

        State copy() {
            State copy = new State();
            copy.paper.addAll(paper);
            for (Entry entry : entries) {
                Entry same = new Entry();
                same.row.addAll(entry.row);
                same.word = entry.word;
                same.picked = entry.picked;
                copy.entries.add(same);
            }
            copy.settings = settings.clone();
            copy.struck = struck;
            copy.eaten = eaten;
            copy.asterisks = asterisks;
            copy.keys = keys;
            return copy;
        }
    }

    private State now = new State();
    private State snapshot = null;
    private final List<State> saved = new ArrayList<>();
    private String buffer = "";

    // ---- reading

    private boolean leads(int entry) {
        Entry asked = now.entries.get(entry);
        for (int i = 0; i < now.entries.size(); i++) {
            Entry rival = now.entries.get(i);
            if (rival.row.equals(asked.row)) {
                if (rival.picked > asked.picked || rival.picked == asked.picked && i < entry) {
                    return false;
                }
            }
        }
        return true;
    }

    private Item itemAt(List<Integer> paper, int place) {
        Item item = new Item();
        item.place = place;
        item.length = 0;
        item.entry = -1;
        for (int i = 0; i < now.entries.size(); i++) {
            List<Integer> row = now.entries.get(i).row;
            boolean comes = row.size() <= now.settings[1] && place + row.size() <= paper.size()
                    && paper.subList(place, place + row.size()).equals(row);
            if (comes && leads(i) && row.size() > item.length) {
                item.length = row.size();
                item.entry = i;
            }
        }
        item.length = Math.max(1, item.length);
        return item;
    }

    private void readOn(List<Item> items, List<Integer> paper) {
        int place = 0;
        for (Item item : items) {
            place += item.length;
        }
        while (place < paper.size()) {
            Item item = itemAt(paper, place);
            items.add(item);
            place += item.length;
        }
    }

    private List<Item> read(List<Integer> paper) {
        List<Item> items = new ArrayList<>();
        readOn(items, paper);
        return items;
    }

    private int strokeByStroke() {
        List<Integer> other = new ArrayList<>();
        List<Item> items = new ArrayList<>();
        for (int stroke : now.paper) {
            other.add(stroke);
            int newest = other.size() - 1;
            items.removeIf(item -> item.place >= newest - 3);
            readOn(items, other);
        }
        return items.size();
    }

    // ---- striking

    private boolean throwsIfStruck(int stroke) {
        return stroke == 0 ? now.paper.isEmpty() : now.paper.size() == 60;
    }

    private void save() {
        saved.add(now.copy());
        if (saved.size() > 6) {
            saved.remove(0);
        }
    }

    private void putOrEat(int stroke) {
        if (stroke != 0) {
            now.paper.add(stroke);
            now.struck++;
            now.keys += Integer.bitCount(stroke);
            return;
        }
        List<Item> items = read(now.paper);
        int eaten = now.settings[0] == 0 ? 1 : items.get(items.size() - 1).length;
        for (int i = 0; i < eaten; i++) {
            now.paper.remove(now.paper.size() - 1);
        }
        now.eaten += eaten;
        now.asterisks++;
    }

    int strike(int stroke) {
        argument(stroke >= 0 && stroke <= 1023);
        state(!throwsIfStruck(stroke));
        save();
        putOrEat(stroke);
        return read(now.paper).size();
    }

    int play() {
        List<Integer> strokes = strokesOf(buffer);
        argument(strokes != null);
        save();
        int struck = 0;
        for (int stroke : strokes) {
            if (throwsIfStruck(stroke)) {
                break;
            }
            putOrEat(stroke);
            struck++;
        }
        buffer = "";
        return struck;
    }

    int tear() {
        save();
        int before = now.paper.size();
        now.paper.clear();
        return before;
    }

    int pick(int item, int entry) {
        List<Item> items = read(now.paper);
        index(item >= 0 && item < items.size() && entry >= 0 && entry < now.entries.size());
        Item picked = items.get(item);
        state(now.entries.get(entry).row.equals(now.paper.subList(picked.place, picked.place + picked.length)));
        save();
        return ++now.entries.get(entry).picked;
    }

    // ---- entries

    int define(int word) {
        argument(word >= 0 && word <= 99);
        List<Integer> strokes = strokesOf(buffer);
        argument(strokes != null && strokes.size() <= 4 && !strokes.contains(0));
        state(now.entries.size() < 24);
        for (Entry entry : now.entries) {
            state(!(entry.row.equals(strokes) && entry.word == word));
        }
        save();
        Entry added = new Entry();
        added.row = strokes;
        added.word = word;
        now.entries.add(added);
        buffer = "";
        return now.entries.size() - 1;
    }

    int remove(int entry) {
        index(entry >= 0 && entry < now.entries.size());
        save();
        now.entries.remove(entry);
        return now.entries.size();
    }

    int set(int setting, int value) {
        index(setting == 0 || setting == 1);
        argument(setting == 0 ? value == 0 || value == 1 : value >= 1 && value <= 4);
        save();
        int before = now.settings[setting];
        now.settings[setting] = value;
        return before;
    }

    // ---- texts

    /** Null if the text is not complete strokes. */
    private static List<Integer> strokesOf(String text) {
        List<Integer> strokes = new ArrayList<>();
        for (String part : text.split("/", -1)) {
            if (!part.matches("s?t?k?p?a?o?e?r?l?d?|\\*") || part.isEmpty()) {
                return null;
            }
            int mask = 0;
            for (char letter : part.toCharArray()) {
                mask += letter == '*' ? 0 : 1 << LETTERS.indexOf(letter);
            }
            strokes.add(mask);
        }
        return strokes;
    }

    int append(int code) {
        argument(code >= 33 && code <= 126);
        state(buffer.length() < 60);
        buffer += (char) code;
        return buffer.length();
    }

    int clearBuffer() {
        int before = buffer.length();
        buffer = "";
        return before;
    }

    int firstError() {
        String begun = "((s?t?k?p?a?o?e?r?l?d?|\\*)(?<!/|^)/)*(s?t?k?p?a?o?e?r?l?d?|\\*)";
        for (int length = 1; length <= buffer.length(); length++) {
            if (!buffer.substring(0, length).matches(begun)) {
                return length - 1;
            }
        }
        return buffer.length();
    }

    int keep() {
        snapshot = now.copy();
        return now.paper.size();
    }

    int goBack() {
        state(snapshot != null);
        save();
        now = snapshot.copy();
        return now.paper.size();
    }

    int undo() {
        state(!saved.isEmpty());
        now = saved.remove(saved.size() - 1);
        return saved.size();
    }

    // ---- looks

    int stroke(int place) {
        index(place >= 0 && place < now.paper.size());
        return now.paper.get(place);
    }

    int item(int number, int what) {
        List<Item> items = read(now.paper);
        index(number >= 0 && number < items.size());
        argument(what >= 0 && what <= 4);
        Item item = items.get(number);
        int rivals = 0;
        for (Entry entry : now.entries) {
            if (entry.row.equals(now.paper.subList(item.place, item.place + item.length))) {
                rivals++;
            }
        }
        int word = item.entry < 0 ? -1 : now.entries.get(item.entry).word;
        return new int[] {word, item.place, item.length, item.entry, rivals}[what];
    }

    int entry(int number, int what) {
        index(number >= 0 && number < now.entries.size());
        argument(what >= 0 && what <= 9);
        Entry entry = now.entries.get(number);
        int[] told = {entry.word, entry.row.size(), -1, -1, -1, -1, entry.picked, leads(number) ? 1 : 0, 0, 0};
        for (int i = 0; i < entry.row.size(); i++) {
            told[2 + i] = entry.row.get(i);
            told[9] += Integer.bitCount(entry.row.get(i));
        }
        for (Item item : read(now.paper)) {
            told[8] += item.entry == number ? 1 : 0;
        }
        return told[what];
    }

    int count(int what) {
        argument(what >= 0 && what <= 9);
        List<Item> items = read(now.paper);
        int raw = 0;
        for (Item item : items) {
            raw += item.entry < 0 ? 1 : 0;
        }
        return new int[] {now.paper.size(), strokeByStroke(), items.size(), raw, now.entries.size(),
            now.struck, now.eaten, now.asterisks, now.keys, saved.size()}[what];
    }

    int setting(int setting) {
        index(setting == 0 || setting == 1);
        return now.settings[setting];
    }

    // ---- what would be

    int ifStruck(int stroke, int what) {
        argument(stroke >= 1 && stroke <= 1023 && what >= 0 && what <= 2);
        List<Integer> paper = new ArrayList<>(now.paper);
        paper.add(stroke);
        List<Item> items = read(paper);
        Item last = items.get(items.size() - 1);
        int word = last.entry < 0 ? -1 : now.entries.get(last.entry).word;
        return new int[] {word, last.length, items.size()}[what];
    }

    int begun(int strokes) {
        argument(strokes >= 1 && strokes <= 3);
        int found = 0;
        if (strokes <= now.paper.size()) {
            List<Integer> last = now.paper.subList(now.paper.size() - strokes, now.paper.size());
            for (Entry entry : now.entries) {
                if (entry.row.size() > strokes && entry.row.subList(0, strokes).equals(last)) {
                    found++;
                }
            }
        }
        return found;
    }

    int shortest(int word) {
        argument(word >= 0 && word <= 99);
        int best = -1;
        int least = Integer.MAX_VALUE;
        for (int i = 0; i < now.entries.size(); i++) {
            Entry entry = now.entries.get(i);
            if (entry.word == word && leads(i) && entry.row.size() <= now.settings[1]) {
                int cost = entry.row.size() * 100_000 + entry(i, 9) * 100 + i;
                if (cost < least) {
                    least = cost;
                    best = i;
                }
            }
        }
        return best;
    }

    int behind(int first, int second) {
        index(first >= 0 && first < now.entries.size() && second >= 0 && second < now.entries.size());
        List<Integer> one = now.entries.get(first).row;
        List<Integer> two = now.entries.get(second).row;
        List<Integer> paper = new ArrayList<>(one);
        paper.addAll(two);
        List<Item> items = read(paper);
        if (items.size() == 1) {
            return 1;
        }
        boolean same = items.size() == 2 && items.get(0).entry >= 0 && items.get(1).entry >= 0
                && now.entries.get(items.get(0).entry).row.equals(one)
                && now.entries.get(items.get(1).entry).row.equals(two);
        return same ? 0 : 2;
    }

    int clashes() {
        int pairs = 0;
        for (int first = 0; first < now.entries.size(); first++) {
            for (int second = 0; second < now.entries.size(); second++) {
                pairs += behind(first, second) == 0 ? 0 : 1;
            }
        }
        return pairs;
    }

    int least() {
        return leastOf(now.paper, new HashMap<>());
    }

    private int leastOf(List<Integer> paper, Map<Integer, Integer> known) {
        if (paper.isEmpty()) {
            return 0;
        }
        if (!known.containsKey(paper.size())) {
            int best = 1 + leastOf(paper.subList(1, paper.size()), known);
            for (Entry entry : now.entries) {
                int length = entry.row.size();
                if (length <= now.settings[1] && length <= paper.size() && paper.subList(0, length).equals(entry.row)) {
                    best = Math.min(best, 1 + leastOf(paper.subList(length, paper.size()), known));
                }
            }
            known.put(paper.size(), best);
        }
        return known.get(paper.size());
    }

    double readShare() {
        int told = 0;
        for (Item item : read(now.paper)) {
            told += item.entry < 0 ? 0 : item.length;
        }
        return now.paper.isEmpty() ? 1.0 : (double) told / now.paper.size();
    }

    float meanKeys() {
        return now.struck == 0 ? 0.0f : (float) now.keys / now.struck;
    }

    long digest() {
        List<Long> list = new ArrayList<>();
        for (int what = 0; what <= 9; what++) {
            list.add((long) count(what));
        }
        list.add((long) now.settings[0]);
        list.add((long) now.settings[1]);
        for (int stroke : now.paper) {
            list.add((long) stroke);
        }
        for (int item = 0; item < count(2); item++) {
            for (int what = 0; what <= 4; what++) {
                list.add((long) item(item, what));
            }
        }
        for (int entry = 0; entry < now.entries.size(); entry++) {
            for (int what = 0; what <= 9; what++) {
                list.add((long) entry(entry, what));
            }
        }
        for (int strokes = 1; strokes <= 3; strokes++) {
            list.add((long) begun(strokes));
        }
        for (int what = 0; what <= 2; what++) {
            list.add((long) ifStruck(1, what));
        }
        for (int word = 0; word <= 9; word++) {
            list.add((long) shortest(word));
        }
        list.add((long) clashes());
        list.add((long) least());
        list.add(Double.doubleToLongBits(readShare()));
        list.add((long) Float.floatToIntBits(meanKeys()));
        list.add(snapshot != null ? 1L : 0L);
        list.add((long) buffer.length());
        for (char sign : buffer.toCharArray()) {
            list.add((long) sign);
        }
        long hash = 3643;
        for (long value : list) {
            hash = 31 * hash + value;
        }
        return hash;
    }

    // ---- exceptions

    private static void argument(boolean fine) {
        if (!fine) {
            throw new IllegalArgumentException();
        }
    }

    private static void state(boolean fine) {
        if (!fine) {
            throw new IllegalStateException();
        }
    }

    private static void index(boolean fine) {
        if (!fine) {
            throw new IndexOutOfBoundsException();
        }
    }
}
