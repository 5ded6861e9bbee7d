import java.math.BigInteger;
import java.util.ArrayList;
import java.util.List;
import java.util.function.Consumer;
import java.util.function.Supplier;

/** The sentences of the promise 28, each with a test of its own. */
final class DigestBounds {
    private DigestBounds() {
    }

    static void run(Document document) {
        document.under("Promise 28: digest");
        document.says("Computes a hash of the whole state.", DigestBounds::wholeState);
        document.says("The hash starts at 3643.", DigestBounds::start);
        document.says("For each value v of the following list, in order, the hash becomes 31 * hash + v, in long "
                + "arithmetic with overflow.", DigestBounds::wrapsAround);
        document.says("The values are: count(0) to count(9); the settings 0 and 1; all strokes on the paper; for each "
                + "item its numbers 0 to 4; for each entry its numbers 0 to 9; begun of 1 to 3; ifStruck of the stroke "
                + "1 with 0 to 2; shortest of the words 0 to 9; clashes; least;", DigestBounds::theList);
        document.says("the bits of readShare (as Double.doubleToLongBits);", DigestBounds::bitsOfEveryShare);
        document.says("the bits of meanKeys (as Float.floatToIntBits);", DigestBounds::bitsOfEveryMean);
        document.says("1 if there is a snapshot, otherwise 0;", DigestBounds::snapshotOrNot);
        document.says("the length of the buffer and each of its character codes.", DigestBounds::theBuffer);
        document.says("Returns the hash.", DigestBounds::theList);
    }

    /**
     * The list of values, by other calls of the face; new objects are made on the way, since one of
     * them may be called 512 times alone.
     */
    private static List<Long> values(Supplier<StenoChords> make, boolean snapshot, String buffer) {
        List<Long> list = new ArrayList<>();
        StenoChords x = make.get();
        for (int what = 0; what <= 9; what++) {
            list.add((long) x.count(what));
        }
        list.add((long) x.setting(0));
        list.add((long) x.setting(1));
        int strokes = x.count(0);
        for (int place = 0; place < strokes; place++) {
            list.add((long) x.stroke(place));
        }
        items(list, make);
        entries(list, make);
        wouldBe(list, make.get());
        list.add(snapshot ? 1L : 0L);
        list.add((long) buffer.length());
        for (char sign : buffer.toCharArray()) {
            list.add((long) sign);
        }
        return list;
    }

    private static void items(List<Long> list, Supplier<StenoChords> make) {
        StenoChords x = make.get();
        int items = x.count(2);
        for (int item = 0; item < items; item++) {
            x = item % 20 == 19 ? make.get() : x;
            for (int what = 0; what <= 4; what++) {
                list.add((long) x.item(item, what));
            }
        }
    }

    private static void entries(List<Long> list, Supplier<StenoChords> make) {
        StenoChords x = make.get();
        int entries = x.count(4);
        for (int entry = 0; entry < entries; entry++) {
            x = entry % 10 == 9 ? make.get() : x;
            for (int what = 0; what <= 9; what++) {
                list.add((long) x.entry(entry, what));
            }
        }
    }

    private static void wouldBe(List<Long> list, StenoChords x) {
        for (int strokes = 1; strokes <= 3; strokes++) {
            list.add((long) x.begun(strokes));
        }
        for (int what = 0; what <= 2; what++) {
            list.add((long) x.ifStruck(1, what));
        }
        for (int word = 0; word <= 9; word++) {
            list.add((long) x.shortest(word));
        }
        list.add((long) x.clashes());
        list.add((long) x.least());
        list.add(Double.doubleToLongBits(x.readShare()));
        list.add((long) Float.floatToIntBits(x.meanKeys()));
    }

    private static long hash(List<Long> list) {
        long hash = 3643;
        for (long value : list) {
            hash = 31 * hash + value;
        }
        return hash;
    }

    private static void digestIs(String what, Supplier<StenoChords> make, boolean snapshot, String buffer) {
        Check.same("digest " + what, make.get().digest(), hash(values(make, snapshot, buffer)));
    }

    private static void wholeState() {
        Supplier<StenoChords> make = Make::rich;
        long before = make.get().digest();
        differs("a stroke", before, x -> x.strike(1));
        differs("torn", before, x -> x.tear());
        differs("picked", before, x -> x.pick(0, 1));
        differs("an entry gone", before, x -> x.remove(4));
        differs("setting 0", before, x -> x.set(0, 0));
        differs("setting 1", before, x -> x.set(1, 3));
        differs("a character", before, x -> x.append('s'));
        differs("no characters", before, x -> x.clearBuffer());
        differs("a saved state less", before, x -> x.undo());
        differs("a saved state more", before, x -> x.goBack());
        Check.same("the same state, the same hash", make.get().digest(), before);
        Trace.looks("digest", Make::full, x -> x.digest());
    }

    private static void differs(String what, long before, Consumer<StenoChords> call) {
        StenoChords x = Make.rich();
        call.accept(x);
        Check.holds("that the hash tells: " + what, x.digest() != before);
    }

    private static void start() {
        int[] counts = {0, 0, 0, 0, 0, 0, 0, 0, 0, 0, 0, 4};
        int[] wouldBe = {0, 0, 0, -1, 1, 1, -1, -1, -1, -1, -1, -1, -1, -1, -1, -1, 0, 0};
        long hash = 3643;
        for (int value : counts) {
            hash = 31 * hash + value;
        }
        for (int value : wouldBe) {
            hash = 31 * hash + value;
        }
        hash = 31 * hash + 0x3FF0000000000000L;
        hash = 31 * 31 * 31 * hash;
        Check.same("the hash of a new object", new StenoChords().digest(), hash);
    }

    private static void wrapsAround() {
        BigInteger longs = BigInteger.ONE.shiftLeft(64);
        int wrapped = 0;
        for (Supplier<StenoChords> make : List.<Supplier<StenoChords>>of(Make::fresh, Make::fullPaper, Make::fullEntries)) {
            BigInteger hash = BigInteger.valueOf(3643);
            for (long value : values(make, false, "")) {
                hash = hash.multiply(BigInteger.valueOf(31)).add(BigInteger.valueOf(value));
            }
            wrapped += hash.bitLength() > 64 ? 1 : 0;
            Check.same("the hash, far beyond a long, in a long", make.get().digest(), hash.mod(longs).longValue());
        }
        Check.same("all of them beyond a long", wrapped, 3);
        int below = 0;
        for (int strokes = 0; strokes <= 60; strokes++) {
            below += Make.raw(strokes).digest() < 0 ? 1 : 0;
        }
        Check.holds("that it falls below 0 and comes above it", below > 0 && below < 61);
    }

    private static void theList() {
        digestIs("of a new object", Make::fresh, false, "");
        digestIs("of four items", Make::rich, true, "st/");
        digestIs("of few strokes", Make::busy, true, "st/");
        digestIs("of a full paper", Make::fullPaper, false, "");
        digestIs("of 60 raw items", () -> Make.raw(60), false, "");
        digestIs("of 24 entries", Make::fullEntries, false, "");
        digestIs("of a full buffer", Make::fullBuffer, false, Make.fullText());
        digestIs("of all full", Make::full, true, Make.fullText());
        for (int longest = 1; longest <= 4; longest++) {
            int value = longest;
            digestIs("by setting 1", () -> withSetting(value), true, "st/");
        }
        for (int strokes = 0; strokes <= 60; strokes++) {
            int struck = strokes;
            digestIs("of " + strokes + " strokes", () -> someStrokes(struck), false, "");
        }
    }

    private static StenoChords withSetting(int longest) {
        StenoChords x = Make.rich();
        x.set(1, longest);
        return x;
    }

    private static StenoChords someStrokes(int strokes) {
        StenoChords x = Check.withEntries("s/t", "t/k/s", "s", "t/k", "k/s/t/s");
        for (int place = 0; place < strokes; place++) {
            x.strike(1 << (place * place + place / 3) % 3);
        }
        return x;
    }

    private static void bitsOfEveryShare() {
        for (int all = 1; all <= 60; all++) {
            for (int read = 0; read <= all; read++) {
                int raw = all - read;
                int told = read;
                StenoChords x = shared(told, raw);
                long bits = Double.doubleToLongBits((double) read / all);
                Check.same(read + " of " + all, x.digest(), hashWithShare(() -> shared(told, raw), bits));
            }
        }
    }

    private static StenoChords shared(int read, int raw) {
        StenoChords x = Check.withEntries("s");
        Check.strikeOften(x, 1, read);
        Check.strikeOften(x, 2, raw);
        return x;
    }

    /** The hash of a state without snapshot and buffer, with the bits of the share put in. */
    private static long hashWithShare(Supplier<StenoChords> make, long bits) {
        List<Long> list = values(make, false, "");
        list.set(list.size() - 4, bits);
        return hash(list);
    }

    private static void bitsOfEveryMean() {
        for (int strokes = 1; strokes <= 16; strokes++) {
            for (int keys = strokes; keys <= 10 * strokes; keys++) {
                int all = strokes;
                int told = keys;
                List<Long> list = values(() -> WouldBeBounds.struckWith(all, told), false, "");
                list.set(list.size() - 3, (long) Float.floatToIntBits((float) keys / strokes));
                Check.same(keys + " in " + strokes, WouldBeBounds.struckWith(all, told).digest(), hash(list));
            }
        }
        List<Long> list = values(Make::fresh, false, "");
        list.set(list.size() - 3, (long) Float.floatToIntBits(0.0f));
        Check.same("without strokes so far", Make.fresh().digest(), hash(list));
    }

    private static void snapshotOrNot() {
        for (Supplier<StenoChords> make : List.<Supplier<StenoChords>>of(Make::fresh, Make::fullPaper)) {
            StenoChords x = make.get();
            long without = x.digest();
            x.keep();
            Check.same("1 more, ahead of the empty buffer's 0", x.digest(), without + 31);
            x.keep();
            Check.same("a second one tells no more", x.digest(), without + 31);
        }
        StenoChords x = new StenoChords();
        long without = x.digest();
        x.keep();
        x.goBack();
        x.undo();
        Check.same("it stays behind goBack and undo", x.digest(), without + 31);
    }

    private static void theBuffer() {
        long hash = new StenoChords().digest();
        StenoChords x = new StenoChords();
        for (int length = 1; length <= 60; length++) {
            x.append(33 + length);
            long due = hash + length;
            for (int code = 34; code <= 33 + length; code++) {
                due = 31 * due + code;
            }
            Check.same("the length and each code", x.digest(), due);
        }
        x.clearBuffer();
        Check.same("without characters", x.digest(), hash);
    }
}
