/**
 * Chords of a small stenotype: strokes of ten keys, entries of one to four strokes that stand for
 * words, and a paper on which strokes are read greedily, the longest entry first.
 *
 * <p>All rows are made once, with the object, and used again by every call: no call but one that
 * throws makes an object.
 */
public final class StenoChords {
    /** There is nothing to return. */
    public static final int NONE = -1;

    private static final String LETTERS = "stkpaoerld";
    private static final int KEYS = 10;
    private static final int HIGHEST_STROKE = 1023;
    private static final int ASTERISK = 0;
    private static final int MOST_STROKES = 60;
    private static final int MOST_ENTRIES = 24;
    private static final int LONGEST_ROW = 4;
    private static final int HIGHEST_WORD = 99;
    private static final int MOST_CHARACTERS = 60;
    private static final int MOST_SAVED = 6;
    private static final int SETTINGS = 2;
    private static final int ITEM_NUMBERS = 5;
    private static final int ENTRY_NUMBERS = 10;
    private static final int COUNTS = 10;
    private static final int STRUCK_NUMBERS = 3;

    private final State now = new State();
    private final State snapshot = new State();
    private final SavedStates saved = new SavedStates();
    private final InputText buffer = new InputText();
    private final Reading reading = new Reading();
    // What would be read is tried on another paper, so that the paper itself stays as it is;
    // it has room for one stroke more, since ifStruck() asks for no room.
    private final Row otherPaper = new Row(MOST_STROKES + 1);
    private final Reading otherReading = new Reading();
    private final Row told = new Row(MOST_CHARACTERS);
    private final Row fewest = new Row(MOST_STROKES + 1);
    private boolean snapshotTaken;

    /** Creates an empty paper, without entries, with an empty buffer and no snapshot. */
    public StenoChords() {
    }

    // ---- striking

    /** Strikes a stroke, or an asterisk (0); returns how many items there are then. */
    public int strike(int stroke) throws IllegalArgumentException, IllegalStateException {
        if (stroke < ASTERISK || stroke > HIGHEST_STROKE) {
            throw new IllegalArgumentException("no such stroke");
        }
        if (!canStrike(stroke)) {
            throw new IllegalStateException("no room for a stroke, or nothing to eat");
        }
        saved.push(now);
        putOrEat(stroke);
        readPaper();
        return reading.size();
    }

    /** Strikes what the buffer tells and clears it; returns how many are struck. */
    public int play() throws IllegalArgumentException {
        if (!buffer.tellStrokes(told)) {
            throw new IllegalArgumentException("the buffer is not complete strokes");
        }
        saved.push(now);
        int struck = 0;
        while (struck < told.length() && canStrike(told.at(struck))) {
            putOrEat(told.at(struck));
            struck++;
        }
        buffer.wipe();
        return struck;
    }

    /** Takes the paper away; returns how many strokes there were. */
    public int tear() {
        saved.push(now);
        int before = now.paper.length();
        now.paper.shorten(0);
        return before;
    }

    /** Picks an entry for an item; returns how often it was picked then. */
    public int pick(int item, int entry) throws IndexOutOfBoundsException, IllegalStateException {
        readPaper();
        if (!reading.has(item) || !now.entries.has(entry)) {
            throw new IndexOutOfBoundsException("no such item or entry");
        }
        if (rowOfItem(item) != now.entries.rowOf(entry)) {
            throw new IllegalStateException("the entry has another row");
        }
        saved.push(now);
        now.entries.pickOnce(entry);
        return now.entries.picksOf(entry);
    }

    // ---- entries

    /** Adds an entry with the strokes that the buffer tells, clears it; returns its number. */
    public int define(int word) throws IllegalArgumentException, IllegalStateException {
        if (word < 0 || word > HIGHEST_WORD) {
            throw new IllegalArgumentException("no such word");
        }
        if (!buffer.tellStrokes(told) || !canBeRow(told)) {
            throw new IllegalArgumentException("the buffer is not 1 to 4 strokes");
        }
        long row = told.packed(0, told.length());
        if (now.entries.isFull() || now.entries.hasBoth(row, word)) {
            throw new IllegalStateException("24 entries, or one with this row and word");
        }
        saved.push(now);
        now.entries.put(row, word);
        buffer.wipe();
        return now.entries.size() - 1;
    }

    /** Takes an entry away; returns how many entries there are then. */
    public int remove(int entry) throws IndexOutOfBoundsException {
        if (!now.entries.has(entry)) {
            throw new IndexOutOfBoundsException("no such entry");
        }
        saved.push(now);
        now.entries.takeAway(entry);
        return now.entries.size();
    }

    /** Changes a setting; returns the previous value. */
    public int set(int setting, int value)
            throws IndexOutOfBoundsException, IllegalArgumentException {
        if (setting < 0 || setting >= SETTINGS) {
            throw new IndexOutOfBoundsException("no such setting");
        }
        if (!canBeSet(setting, value)) {
            throw new IllegalArgumentException("no such value of the setting");
        }
        saved.push(now);
        int before = settingNumber(setting);
        if (setting == 0) {
            now.eatsItems = value;
        } else {
            now.longestRead = value;
        }
        return before;
    }

    // ---- texts, the snapshot

    /** Appends a character to the buffer; returns the new length of the buffer. */
    public int append(int code) throws IllegalArgumentException, IllegalStateException {
        if (code < 33 || code > 126) {
            throw new IllegalArgumentException("no such character code");
        }
        if (buffer.isFull()) {
            throw new IllegalStateException("the buffer is full");
        }
        buffer.put(code);
        return buffer.length();
    }

    /** Clears the buffer; returns the length that it had. */
    public int clearBuffer() {
        int before = buffer.length();
        buffer.wipe();
        return before;
    }

    /** Returns the index of the first syntax error; the length of the buffer if there is none. */
    public int firstError() {
        return buffer.firstFault();
    }

    /** Takes a snapshot of the state; returns how many strokes are on the paper. */
    public int keep() {
        snapshot.become(now);
        snapshotTaken = true;
        return now.paper.length();
    }

    /** Goes back to the snapshot; returns how many strokes are on the paper then. */
    public int goBack() throws IllegalStateException {
        if (!snapshotTaken) {
            throw new IllegalStateException("there is no snapshot");
        }
        saved.push(now);
        now.become(snapshot);
        return now.paper.length();
    }

    /** Restores the latest saved state; returns how many saved states are left. */
    public int undo() throws IllegalStateException {
        if (saved.size() == 0) {
            throw new IllegalStateException("there is no saved state");
        }
        saved.popInto(now);
        return saved.size();
    }

    // ---- looks; nothing is changed

    /** Returns a stroke of the paper, as a mask. */
    public int stroke(int place) throws IndexOutOfBoundsException {
        if (!now.paper.has(place)) {
            throw new IndexOutOfBoundsException("no such place");
        }
        return now.paper.at(place);
    }

    /** Tells something of an item. */
    public int item(int item, int what) throws IndexOutOfBoundsException, IllegalArgumentException {
        readPaper();
        if (!reading.has(item)) {
            throw new IndexOutOfBoundsException("no such item");
        }
        if (what < 0 || what >= ITEM_NUMBERS) {
            throw new IllegalArgumentException("no such number of an item");
        }
        return itemNumber(item, what);
    }

    /** Tells something of an entry. */
    public int entry(int entry, int what)
            throws IndexOutOfBoundsException, IllegalArgumentException {
        if (!now.entries.has(entry)) {
            throw new IndexOutOfBoundsException("no such entry");
        }
        if (what < 0 || what >= ENTRY_NUMBERS) {
            throw new IllegalArgumentException("no such number of an entry");
        }
        readPaper();
        return entryNumber(entry, what);
    }

    /** Returns a number of the whole. */
    public int count(int what) throws IllegalArgumentException {
        if (what < 0 || what >= COUNTS) {
            throw new IllegalArgumentException("no such number");
        }
        readPaper();
        return countNumber(what);
    }

    /** Returns a setting. */
    public int setting(int setting) throws IndexOutOfBoundsException {
        if (setting < 0 || setting >= SETTINGS) {
            throw new IndexOutOfBoundsException("no such setting");
        }
        return settingNumber(setting);
    }

    // ---- what would be; nothing is changed

    /** Tells what would be read if a stroke was struck. */
    public int ifStruck(int stroke, int what) throws IllegalArgumentException {
        if (stroke <= ASTERISK || stroke > HIGHEST_STROKE) {
            throw new IllegalArgumentException("no such stroke");
        }
        if (what < 0 || what >= STRUCK_NUMBERS) {
            throw new IllegalArgumentException("no such number");
        }
        otherPaper.become(now.paper);
        otherPaper.put(stroke);
        otherReading.dropFrom(0);
        otherReading.readOn(otherPaper, now);
        int last = otherReading.size() - 1;
        switch (what) {
            case 0:
                return now.entries.wordOf(otherReading.leaderAt(last));
            case 1:
                return otherReading.lengthAt(last);
            default:
                return otherReading.size();
        }
    }

    /** Tells how many entries can still come of so many last strokes. */
    public int begun(int strokes) throws IllegalArgumentException {
        if (strokes < 1 || strokes >= LONGEST_ROW) {
            throw new IllegalArgumentException("not 1 to 3 strokes");
        }
        int place = now.paper.length() - strokes;
        if (place < 0) {
            return 0;
        }
        return now.entries.longerThan(now.paper.packed(place, strokes), strokes);
    }

    /** Finds the entry with the shortest strokes for a word, NONE if there is none. */
    public int shortest(int word) throws IllegalArgumentException {
        if (word < 0 || word > HIGHEST_WORD) {
            throw new IllegalArgumentException("no such word");
        }
        int best = NONE;
        for (int entry = 0; entry < now.entries.size(); entry++) {
            if (canTell(entry, word) && (best == NONE || isShorter(entry, best))) {
                best = entry;
            }
        }
        return best;
    }

    /** Tells how two entries are read one behind the other. */
    public int behind(int first, int second) throws IndexOutOfBoundsException {
        if (!now.entries.has(first) || !now.entries.has(second)) {
            throw new IndexOutOfBoundsException("no such entry");
        }
        return readBehind(first, second);
    }

    /** Tells how many pairs of entries are not read as they are. */
    public int clashes() {
        int pairs = 0;
        for (int first = 0; first < now.entries.size(); first++) {
            for (int second = 0; second < now.entries.size(); second++) {
                if (readBehind(first, second) != 0) {
                    pairs++;
                }
            }
        }
        return pairs;
    }

    /** Tells the fewest items by any reading. */
    public int least() {
        fewest.shorten(0);
        fewest.put(0);
        for (int end = 1; end <= now.paper.length(); end++) {
            fewest.put(fewestUpTo(end));
        }
        return fewest.at(now.paper.length());
    }

    /** Returns how much of the paper is read. */
    public double readShare() {
        int all = now.paper.length();
        if (all == 0) {
            return 1.0;
        }
        readPaper();
        return (double) (all - rawItems()) / all;
    }

    /** Returns how many keys there were in a stroke. */
    public float meanKeys() {
        if (now.struck == 0) {
            return 0.0f;
        }
        return (float) now.keys / now.struck;
    }

    /** Computes a hash of the whole state. */
    public long digest() {
        readPaper();
        long hash = mixNumbers(3643L);
        hash = mixItems(hash);
        hash = mixEntries(hash);
        hash = mixWhatWouldBe(hash);
        hash = mix(hash, bitsOfShare(readShare()));
        hash = mix(hash, bitsOfMean(meanKeys()));
        hash = mix(hash, snapshotTaken ? 1 : 0);
        hash = mix(hash, buffer.length());
        for (int index = 0; index < buffer.length(); index++) {
            hash = mix(hash, buffer.codeAt(index));
        }
        return hash;
    }

    // ---- striking, inside

    private boolean canStrike(int stroke) {
        return stroke == ASTERISK ? now.paper.length() > 0 : !now.paper.isFull();
    }

    private void putOrEat(int stroke) {
        if (stroke == ASTERISK) {
            eat();
        } else {
            now.paper.put(stroke);
            now.struck++;
            now.keys += Integer.bitCount(stroke);
        }
    }

    private void eat() {
        int left = now.paper.length() - 1;
        if (now.eatsItems == 1) {
            readPaper();
            left = reading.placeAt(reading.size() - 1);
        }
        now.eaten += now.paper.length() - left;
        now.asterisks++;
        now.paper.shorten(left);
    }

    private void readPaper() {
        reading.dropFrom(0);
        reading.readOn(now.paper, now);
    }

    // ---- rows of strokes, each packed into one long

    private static int strokeOf(long row, int index) {
        return (int) (row >> (KEYS * index)) & HIGHEST_STROKE;
    }

    private static int strokesOf(long row) {
        int strokes = 0;
        for (int index = 0; index < LONGEST_ROW; index++) {
            if (strokeOf(row, index) != 0) {
                strokes++;
            }
        }
        return strokes;
    }

    private static boolean canBeRow(Row strokes) {
        for (int index = 0; index < strokes.length(); index++) {
            if (strokes.at(index) == ASTERISK) {
                return false;
            }
        }
        return strokes.length() >= 1 && strokes.length() <= LONGEST_ROW;
    }

    private long rowOfItem(int item) {
        return now.paper.packed(reading.placeAt(item), reading.lengthAt(item));
    }

    // ---- settings, inside

    private static boolean canBeSet(int setting, int value) {
        if (setting == 0) {
            return value == 0 || value == 1;
        }
        return value >= 1 && value <= LONGEST_ROW;
    }

    private int settingNumber(int setting) {
        return setting == 0 ? now.eatsItems : now.longestRead;
    }

    // ---- numbers of items, entries and the whole; the paper has been read

    private int itemNumber(int item, int what) {
        switch (what) {
            case 0:
                return now.entries.wordOf(reading.leaderAt(item));
            case 1:
                return reading.placeAt(item);
            case 2:
                return reading.lengthAt(item);
            case 3:
                return reading.leaderAt(item);
            default:
                return now.entries.rivals(rowOfItem(item));
        }
    }

    private int entryNumber(int entry, int what) {
        long row = now.entries.rowOf(entry);
        switch (what) {
            case 0:
                return now.entries.wordOf(entry);
            case 1:
                return strokesOf(row);
            case 6:
                return now.entries.picksOf(entry);
            case 7:
                return now.entries.leaderOf(row) == entry ? 1 : 0;
            case 8:
                return reading.itemsOf(entry);
            case 9:
                return Long.bitCount(row);
            default:
                int stroke = strokeOf(row, what - 2);
                return stroke == 0 ? NONE : stroke;
        }
    }

    private int countNumber(int what) {
        switch (what) {
            case 0:
                return now.paper.length();
            case 1:
                return itemsStrokeByStroke();
            case 2:
                return reading.size();
            case 3:
                return rawItems();
            case 4:
                return now.entries.size();
            case 5:
                return now.struck;
            case 6:
                return now.eaten;
            case 7:
                return now.asterisks;
            case 8:
                return now.keys;
            default:
                return saved.size();
        }
    }

    private int itemsStrokeByStroke() {
        otherPaper.shorten(0);
        otherReading.dropFrom(0);
        for (int place = 0; place < now.paper.length(); place++) {
            otherPaper.put(now.paper.at(place));
            otherReading.dropFrom(place - (LONGEST_ROW - 1));
            otherReading.readOn(otherPaper, now);
        }
        return otherReading.size();
    }

    // Each raw item is one stroke.
    private int rawItems() {
        return reading.itemsOf(NONE);
    }

    // ---- what would be, inside

    private boolean canTell(int entry, int word) {
        long row = now.entries.rowOf(entry);
        return now.entries.wordOf(entry) == word
                && strokesOf(row) <= now.longestRead
                && now.entries.leaderOf(row) == entry;
    }

    private boolean isShorter(int entry, int other) {
        long row = now.entries.rowOf(entry);
        long otherRow = now.entries.rowOf(other);
        int strokes = strokesOf(row);
        int otherStrokes = strokesOf(otherRow);
        if (strokes != otherStrokes) {
            return strokes < otherStrokes;
        }
        return Long.bitCount(row) < Long.bitCount(otherRow);
    }

    private int readBehind(int first, int second) {
        otherPaper.shorten(0);
        putRow(now.entries.rowOf(first));
        int middle = otherPaper.length();
        putRow(now.entries.rowOf(second));
        int end = otherPaper.length();
        int length = now.entries.longestAt(otherPaper, 0, now.longestRead);
        if (length == end) {
            return 1;
        }
        if (length != middle) {
            return 2;
        }
        int rest = now.entries.longestAt(otherPaper, middle, now.longestRead);
        return rest == end - middle ? 0 : 2;
    }

    private void putRow(long row) {
        int strokes = strokesOf(row);
        for (int index = 0; index < strokes; index++) {
            otherPaper.put(strokeOf(row, index));
        }
    }

    // The rows that end here are tried on what is fewest ahead of them.
    private int fewestUpTo(int end) {
        int best = fewest.at(end - 1) + 1;
        int longest = Math.min(now.longestRead, end);
        for (int length = 2; length <= longest; length++) {
            int place = end - length;
            if (now.entries.leaderOf(now.paper.packed(place, length)) != NONE) {
                best = Math.min(best, fewest.at(place) + 1);
            }
        }
        return best;
    }

    // ---- the hash, inside; the paper has been read

    private static long mix(long hash, long value) {
        return 31 * hash + value;
    }

    private long mixNumbers(long start) {
        long hash = start;
        for (int what = 0; what < COUNTS; what++) {
            hash = mix(hash, countNumber(what));
        }
        for (int setting = 0; setting < SETTINGS; setting++) {
            hash = mix(hash, settingNumber(setting));
        }
        for (int place = 0; place < now.paper.length(); place++) {
            hash = mix(hash, now.paper.at(place));
        }
        return hash;
    }

    private long mixItems(long start) {
        long hash = start;
        for (int item = 0; item < reading.size(); item++) {
            for (int what = 0; what < ITEM_NUMBERS; what++) {
                hash = mix(hash, itemNumber(item, what));
            }
        }
        return hash;
    }

    private long mixEntries(long start) {
        long hash = start;
        for (int entry = 0; entry < now.entries.size(); entry++) {
            for (int what = 0; what < ENTRY_NUMBERS; what++) {
                hash = mix(hash, entryNumber(entry, what));
            }
        }
        return hash;
    }

    private long mixWhatWouldBe(long start) {
        long hash = start;
        for (int strokes = 1; strokes < LONGEST_ROW; strokes++) {
            hash = mix(hash, begun(strokes));
        }
        for (int what = 0; what < STRUCK_NUMBERS; what++) {
            hash = mix(hash, ifStruck(1, what));
        }
        for (int word = 0; word < 10; word++) {
            hash = mix(hash, shortest(word));
        }
        return mix(mix(hash, clashes()), least());
    }

    // The bits are worked out by hand, since the library's own functions are not at hand here;
    // every step is exact. A share is 0, or at least 1/60 and at most 1.
    private static long bitsOfShare(double share) {
        if (share <= 0.0) {
            return 0L;
        }
        double rest = share;
        long exponent = 1023;
        for (int step = 0; step < 6 && rest < 1.0; step++) {
            rest = rest * 2.0;
            exponent--;
        }
        return (exponent << 52) + (long) ((rest - 1.0) * (double) (1L << 52));
    }

    // A mean is 0, or at least 1 and at most 10.
    private static int bitsOfMean(float mean) {
        if (mean <= 0.0f) {
            return 0;
        }
        float rest = mean;
        int exponent = 127;
        for (int step = 0; step < 3 && rest >= 2.0f; step++) {
            rest = rest / 2.0f;
            exponent++;
        }
        return (exponent << 23) + (int) ((rest - 1.0f) * (float) (1 << 23));
    }

    /** Numbers one behind the other, up to a fixed room; a place outside them holds NONE. */
    private static final class Row {
        private final int[] cells;
        private int length;

        Row(int room) {
            cells = new int[Math.max(room, 0)];
        }

        int length() {
            return length;
        }

        boolean has(int place) {
            return place >= 0 && place < length && place < cells.length;
        }

        boolean isFull() {
            return length >= cells.length;
        }

        int at(int place) {
            return has(place) ? cells[place] : NONE;
        }

        void put(int value) {
            if (length >= 0 && length < cells.length) {
                cells[length] = value;
                length++;
            }
        }

        void shorten(int newLength) {
            if (newLength >= 0 && newLength < length) {
                length = newLength;
            }
        }

        /**
         * So many strokes from a place on, packed into one long; since no stroke is 0, rows of
         * different lengths never make the same long.
         */
        long packed(int place, int strokes) {
            long row = 0;
            for (int index = 0; index < strokes; index++) {
                int cell = place + index;
                if (cell >= 0 && cell < length && cell < cells.length) {
                    row |= (long) cells[cell] << (KEYS * index);
                }
            }
            return row;
        }

        void become(Row other) {
            length = 0;
            for (int place = 0; place < other.length; place++) {
                put(other.at(place));
            }
        }
    }

    /** The entries: their rows (packed), their words and how often they were picked. */
    private static final class Entries {
        private final long[] rows = new long[MOST_ENTRIES];
        private final int[] words = new int[MOST_ENTRIES];
        private final int[] picks = new int[MOST_ENTRIES];
        private int size;

        int size() {
            return size;
        }

        boolean has(int entry) {
            return entry >= 0 && entry < size && entry < MOST_ENTRIES;
        }

        boolean isFull() {
            return size >= MOST_ENTRIES;
        }

        long rowOf(int entry) {
            return has(entry) ? rows[entry] : 0L;
        }

        int wordOf(int entry) {
            return has(entry) ? words[entry] : NONE;
        }

        int picksOf(int entry) {
            return has(entry) ? picks[entry] : 0;
        }

        boolean hasBoth(long row, int word) {
            for (int entry = 0; entry < size; entry++) {
                if (rowOf(entry) == row && wordOf(entry) == word) {
                    return true;
                }
            }
            return false;
        }

        /** The leading entry with a row, NONE if there is none with it. */
        int leaderOf(long row) {
            int leader = NONE;
            int most = -1;
            for (int entry = 0; entry < size && entry < MOST_ENTRIES; entry++) {
                if (rows[entry] == row && picks[entry] > most) {
                    leader = entry;
                    most = picks[entry];
                }
            }
            return leader;
        }

        int rivals(long row) {
            int found = 0;
            for (int entry = 0; entry < size; entry++) {
                if (rowOf(entry) == row) {
                    found++;
                }
            }
            return found;
        }

        /** How many entries begin with so many strokes, and have more. */
        int longerThan(long beginning, int strokes) {
            long mask = (1L << (KEYS * strokes)) - 1;
            int found = 0;
            for (int entry = 0; entry < size; entry++) {
                long row = rowOf(entry);
                if ((row & mask) == beginning && row != beginning) {
                    found++;
                }
            }
            return found;
        }

        /** How many strokes the longest row has that comes at a place; 0 if none comes there. */
        int longestAt(Row paper, int place, int longestRead) {
            for (int length = Math.min(longestRead, paper.length() - place); length > 0; length--) {
                if (leaderOf(paper.packed(place, length)) != NONE) {
                    return length;
                }
            }
            return 0;
        }

        void pickOnce(int entry) {
            if (has(entry)) {
                picks[entry]++;
            }
        }

        void put(long row, int word) {
            put(row, word, 0);
        }

        private void put(long row, int word, int picked) {
            if (size >= 0 && size < MOST_ENTRIES) {
                rows[size] = row;
                words[size] = word;
                picks[size] = picked;
                size++;
            }
        }

        void takeAway(int entry) {
            if (!has(entry)) {
                return;
            }
            for (int next = entry + 1; next < size && next < MOST_ENTRIES; next++) {
                rows[next - 1] = rows[next];
                words[next - 1] = words[next];
                picks[next - 1] = picks[next];
            }
            size--;
        }

        void become(Entries other) {
            size = 0;
            for (int entry = 0; entry < other.size; entry++) {
                put(other.rowOf(entry), other.wordOf(entry), other.picksOf(entry));
            }
        }
    }

    /** All that undo() restores. */
    private static final class State {
        final Row paper = new Row(MOST_STROKES);
        final Entries entries = new Entries();
        int eatsItems;
        int longestRead = LONGEST_ROW;
        int struck;
        int eaten;
        int asterisks;
        int keys;

        void become(State other) {
            paper.become(other.paper);
            entries.become(other.entries);
            eatsItems = other.eatsItems;
            longestRead = other.longestRead;
            struck = other.struck;
            eaten = other.eaten;
            asterisks = other.asterisks;
            keys = other.keys;
        }
    }

    /** The latest states, in a ring: a new one takes the place of the oldest when it is full. */
    private static final class SavedStates {
        private final State[] ring = new State[MOST_SAVED];
        private int oldest;
        private int size;

        SavedStates() {
            for (int index = 0; index < ring.length; index++) {
                ring[index] = new State();
            }
        }

        int size() {
            return size;
        }

        void push(State state) {
            State slot = slotBehindOldest(size);
            if (slot != null) {
                slot.become(state);
            }
            if (size < MOST_SAVED) {
                size++;
            } else {
                oldest = Math.floorMod(oldest + 1, MOST_SAVED);
            }
        }

        void popInto(State state) {
            if (size > 0) {
                size--;
                State slot = slotBehindOldest(size);
                if (slot != null) {
                    state.become(slot);
                }
            }
        }

        private State slotBehindOldest(int distance) {
            int slot = Math.floorMod(oldest + distance, MOST_SAVED);
            return slot >= 0 && slot < ring.length ? ring[slot] : null;
        }
    }

    /** The items of a paper; a raw item is one without a leading entry. */
    private static final class Reading {
        private final Row places = new Row(MOST_STROKES + 1);
        private final Row lengths = new Row(MOST_STROKES + 1);
        private final Row leaders = new Row(MOST_STROKES + 1);

        int size() {
            return places.length();
        }

        boolean has(int item) {
            return places.has(item);
        }

        int placeAt(int item) {
            return places.at(item);
        }

        int lengthAt(int item) {
            return lengths.at(item);
        }

        int leaderAt(int item) {
            return leaders.at(item);
        }

        /** How many items stand for an entry; raw ones if the entry is NONE. */
        int itemsOf(int entry) {
            int found = 0;
            for (int item = 0; item < leaders.length(); item++) {
                if (leaders.at(item) == entry) {
                    found++;
                }
            }
            return found;
        }

        /** Forgets the items that begin at a place or behind it. */
        void dropFrom(int place) {
            for (int item = size() - 1; item >= 0 && places.at(item) >= place; item--) {
                places.shorten(item);
                lengths.shorten(item);
                leaders.shorten(item);
            }
        }

        /** Reads on behind the last item. */
        void readOn(Row paper, State state) {
            int last = size() - 1;
            int next = last < 0 ? 0 : places.at(last) + lengths.at(last);
            for (int place = next; place < paper.length(); place++) {
                if (place == next) {
                    int length = state.entries.longestAt(paper, place, state.longestRead);
                    // A raw stroke is no row of an entry, so it finds no leading one.
                    length = Math.max(1, length);
                    places.put(place);
                    lengths.put(length);
                    leaders.put(state.entries.leaderOf(paper.packed(place, length)));
                    next = place + length;
                }
            }
        }
    }

    /** The buffer, read as strokes. */
    private static final class InputText {
        // Where a text stands: at the beginning of a stroke, behind a letter (its key), or behind
        // an asterisk, which only "/" can follow, as it would follow a key behind all others.
        private static final int AT_BEGINNING = -1;
        private static final int BEHIND_ASTERISK = KEYS;
        private static final int IN_ERROR = -2;

        private final Row codes = new Row(MOST_CHARACTERS);

        int length() {
            return codes.length();
        }

        boolean isFull() {
            return codes.isFull();
        }

        int codeAt(int index) {
            return codes.at(index);
        }

        void put(int code) {
            codes.put(code);
        }

        void wipe() {
            codes.shorten(0);
        }

        int firstFault() {
            int stand = AT_BEGINNING;
            for (int index = 0; index < codes.length(); index++) {
                stand = standBehind(stand, codes.at(index));
                if (stand == IN_ERROR) {
                    return index;
                }
            }
            return codes.length();
        }

        /** Puts the strokes that are told into a row; answers whether the text is complete. */
        boolean tellStrokes(Row strokes) {
            strokes.shorten(0);
            int stand = AT_BEGINNING;
            int mask = 0;
            for (int index = 0; index < codes.length(); index++) {
                stand = standBehind(stand, codes.at(index));
                if (stand == IN_ERROR) {
                    return false;
                }
                if (stand == AT_BEGINNING) {
                    strokes.put(mask);
                    mask = 0;
                } else if (stand != BEHIND_ASTERISK) {
                    mask |= 1 << stand;
                }
            }
            strokes.put(mask);
            return stand != AT_BEGINNING;
        }

        private static int standBehind(int stand, int code) {
            if (code == '/') {
                return stand == AT_BEGINNING ? IN_ERROR : AT_BEGINNING;
            }
            if (code == '*') {
                return stand == AT_BEGINNING ? BEHIND_ASTERISK : IN_ERROR;
            }
            int key = LETTERS.indexOf((char) code);
            return key > stand ? key : IN_ERROR;
        }
    }
}
