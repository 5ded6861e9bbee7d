import java.util.List;
import java.util.function.Supplier;

/** Objects at the limits of the document. Each call makes a new one, always the same. */
final class Make {
    static final String[] ROWS = {"s", "t", "k", "s/t", "t/k", "k/s", "s/s", "s/t/k", "t/t/t", "s/t/k/p",
        "k/k/k/k", "stkpaoerld"};

    private Make() {
    }

    static StenoChords fresh() {
        return new StenoChords();
    }

    /** Four items (the last one raw), five entries, one saved state, a snapshot, half a text. */
    static StenoChords rich() {
        StenoChords x = Check.withEntries("s", "s", "s/t", "k/p/a/o", "d");
        Check.play(x, "s/s/t/k/p/a/o/e/*/e");
        x.pick(0, 1);
        x.set(0, 1);
        x.keep();
        for (int state = 0; state < 6; state++) {
            x.undo();
        }
        x.goBack();
        Check.type(x, "st/");
        return x;
    }

    /** Six saved states, and others that were dropped; a snapshot that is not the state. */
    static StenoChords busy() {
        StenoChords x = rich();
        x.strike(1);
        x.set(1, 3);
        x.strike(0);
        x.remove(2);
        x.tear();
        x.strike(1);
        x.strike(3);
        x.strike(512);
        return x;
    }

    static StenoChords fullPaper() {
        StenoChords x = Check.withEntries("s", "s/t", "t/s/t/s");
        for (int place = 0; place < 60; place++) {
            x.strike(place % 7 == 6 ? 1023 : 1 + place % 2);
        }
        return x;
    }

    /** 24 entries: each of the twelve rows with two words, the words being the numbers. */
    static StenoChords fullEntries() {
        StenoChords x = new StenoChords();
        for (int word = 0; word < 24; word++) {
            Check.define(x, ROWS[word % 12], word);
        }
        return x;
    }

    static StenoChords fullBuffer() {
        StenoChords x = new StenoChords();
        Check.type(x, fullText());
        return x;
    }

    /** 60 characters; strokes that are not complete. */
    static String fullText() {
        return "st/".repeat(20);
    }

    static StenoChords full() {
        StenoChords x = fullEntries();
        for (int place = 0; place < 59; place++) {
            x.strike(1 << place * place % 5);
        }
        x.keep();
        x.strike(1);
        x.pick(0, 15);
        Check.type(x, fullText());
        return x;
    }

    /** So many strokes on the paper, each of them a raw item. */
    static StenoChords raw(int strokes) {
        StenoChords x = new StenoChords();
        Check.strikeOften(x, 5, strokes);
        return x;
    }

    static List<Supplier<StenoChords>> all() {
        return List.of(Make::fresh, Make::rich, Make::busy, Make::fullPaper, Make::fullEntries, Make::fullBuffer,
                Make::full);
    }
}
