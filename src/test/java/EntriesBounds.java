/** The sentences of the promises 6 to 8, each with a test of its own. */
final class EntriesBounds {
    private EntriesBounds() {
    }

    static void run(Document document) {
        document.under("Promise 6: define");
        document.says("Adds an entry with the strokes that the buffer tells, and clears the buffer.",
                EntriesBounds::adds);
        document.says("Undoable.", EntriesBounds::defineUndoable);
        document.says("- `word`: 0 to 99", EntriesBounds::everyWord);
        document.says("Returns the number of the entry.", EntriesBounds::numbers);
        document.says("Throws `IllegalArgumentException` if word is out of range, or the buffer is not 1 to 4 strokes "
                + "as a text, without asterisks", EntriesBounds::noWordOrNoRow);
        document.says("Throws `IllegalStateException` if there are 24 entries, or one with this row and this word",
                EntriesBounds::fullOrTheSame);
        document.under("Promise 7: remove");
        document.says("Takes an entry away.", EntriesBounds::takesAway);
        document.says("Undoable.", EntriesBounds::removeUndoable);
        document.says("- `entry`: its number", EntriesBounds::everyEntry);
        document.says("Returns how many entries there are then.", EntriesBounds::howManyThen);
        document.says("Throws `IndexOutOfBoundsException` if there is no such entry", EntriesBounds::noSuchEntry);
        document.under("Promise 8: set");
        document.says("Changes a setting.", EntriesBounds::changes);
        document.says("Undoable.", EntriesBounds::setUndoable);
        document.says("- `setting`: 0 or 1", EntriesBounds::bothSettings);
        document.says("- `value`: the new value", EntriesBounds::everyValue);
        document.says("Returns the previous value.", EntriesBounds::previous);
        document.says("Throws `IndexOutOfBoundsException` if there is no such setting", EntriesBounds::noSuchSetting);
        document.says("Throws `IllegalArgumentException` if value is out of range", EntriesBounds::noSuchValue);
    }

    private static StenoChords typed(StenoChords x, String text) {
        Check.type(x, text);
        return x;
    }

    private static StenoChords richWithText(String text) {
        return typed(Trace.withoutText(Make.rich()), text);
    }

    private static StenoChords fullWithText(String text) {
        return typed(Make.fullEntries(), text);
    }

    // ---- define

    private static void adds() {
        String[] rows = {"s", "stkpaoerld", "s/d", "d/s/d", "t/k/p/stkpaoerld", "stkpaoerld/s/s/s"};
        int[][] strokes = {{1, -1, -1, -1}, {1023, -1, -1, -1}, {1, 512, -1, -1}, {512, 1, 512, -1},
            {2, 4, 8, 1023}, {1023, 1, 1, 1}};
        for (int i = 0; i < rows.length; i++) {
            StenoChords x = typed(new StenoChords(), rows[i]);
            x.define(50);
            Check.same("one entry", x.count(4), 1);
            for (int place = 0; place < 4; place++) {
                Check.same("its strokes", x.entry(0, 2 + place), strokes[i][place]);
            }
            Check.same("nothing is struck", x.count(0) + x.count(5), 0);
            Check.same("the buffer is cleared", x.clearBuffer(), 0);
        }
    }

    private static void defineUndoable() {
        Trace.undoable("define", () -> richWithText("st"), x -> x.define(99));
        Trace.undoable("the first one", () -> typed(Make.fresh(), "s/t/k/p"), x -> x.define(0));
        StenoChords x = typed(Make.fresh(), "s");
        x.define(0);
        x.undo();
        Check.same("the buffer is not restored", x.clearBuffer(), 0);
        StenoChords y = fullWithText("d");
        y.remove(0);
        y.define(77);
        y.undo();
        Check.same("the 24th undone", y.count(4), 23);
        y.undo();
        Check.same("and the one taken away is back", y.entry(0, 0), 0);
    }

    private static void everyWord() {
        for (int word = 0; word <= 99; word++) {
            StenoChords x = typed(Make.fresh(), "s");
            Check.same("define " + word, x.define(word), 0);
            Check.same("its word", x.entry(0, 0), word);
        }
    }

    private static void numbers() {
        StenoChords x = new StenoChords();
        for (int number = 0; number < 24; number++) {
            Check.same("its number", Check.define(x, "s", number), number);
        }
        x.remove(5);
        Check.same("the last number again", Check.define(x, "s", 50), 23);
        for (int left = 23; left >= 0; left--) {
            x.remove(0);
        }
        Check.same("the first number again", Check.define(x, "s", 50), 0);
    }

    private static void noWordOrNoRow() {
        for (int word : new int[] {-1, 100, Integer.MIN_VALUE, Integer.MAX_VALUE}) {
            Trace.refusesArgument("define " + word, () -> richWithText("st"), x -> x.define(word));
        }
        String[] texts = {"", "s/t/k/p/a", "s/s/s/s/s/s/s/s", "s/t/k/p/", "s/", "/s", "/", "s//t", "*", "*/s", "s/*",
            "s/t/k/*", "ss", "ts", "s*", "*s", "x", "s/x", "S"};
        for (String text : texts) {
            Trace.refusesArgument("define of " + text, () -> richWithText(text), x -> x.define(5));
        }
        Trace.refusesArgument("define of a full buffer", Make::fullBuffer, x -> x.define(5));
        Check.same("four strokes", richWithText("s/t/k/p").define(5), 5);
        Check.same("one stroke", richWithText("t").define(5), 5);
        String longest = "stkpaoerld/stkpaoerld/stkpaoerld/stkpaoerld";
        Check.same("the longest text", richWithText(longest).define(5), 5);
    }

    private static void fullOrTheSame() {
        Trace.refusesState("the 25th", () -> fullWithText("d"), x -> x.define(50));
        Trace.refusesState("the 25th, the same as the first", () -> fullWithText("s"), x -> x.define(0));
        Check.same("the 24th", oneLess(fullWithText("d")).define(50), 23);
        Trace.refusesState("the same as the first", () -> richWithText("s"), x -> x.define(0));
        Trace.refusesState("the same as the second", () -> richWithText("s"), x -> x.define(1));
        Trace.refusesState("the same as the last", () -> richWithText("d"), x -> x.define(4));
        Trace.refusesState("the same row of four", () -> richWithText("k/p/a/o"), x -> x.define(3));
        Check.same("another word", richWithText("s").define(2), 5);
        Check.same("another row", richWithText("s/s").define(0), 5);
        Check.same("the same strokes the other way round", richWithText("t/s").define(2), 5);
        Check.same("only the beginning of the row", richWithText("k/p/a").define(3), 5);
    }

    private static StenoChords oneLess(StenoChords x) {
        x.remove(23);
        return x;
    }

    // ---- remove

    private static void takesAway() {
        StenoChords x = Make.rich();
        x.remove(3);
        Check.sameText("the row of four is read no longer", Check.items(x), "1200000");
        Check.same("the one behind it", x.entry(3, 0), 4);
        Check.refusesIndex(x, "no fifth one", () -> x.entry(4, 0));
        x.remove(1);
        Check.same("the rival leads", x.item(0, 3), 0);
        Check.same("and was never picked", x.entry(0, 6), 0);
        StenoChords y = Make.full();
        y.remove(0);
        Check.same("how often picked goes with its entry", y.entry(14, 6), 1);
        Check.same("and not with the number", y.entry(15, 6), 0);
    }

    private static void removeUndoable() {
        for (int entry = 0; entry < 5; entry++) {
            int gone = entry;
            Trace.undoable("remove " + entry, Make::rich, x -> x.remove(gone));
        }
    }

    private static void everyEntry() {
        for (int entry = 0; entry < 24; entry++) {
            StenoChords x = Make.fullEntries();
            x.remove(entry);
            for (int other = 0; other < 23; other++) {
                Check.same("the words that are left", x.entry(other, 0), other < entry ? other : other + 1);
            }
        }
    }

    private static void howManyThen() {
        StenoChords x = Make.fullEntries();
        for (int left = 23; left >= 0; left--) {
            Check.same("left", x.remove(left / 2), left);
            Check.same("counted", x.count(4), left);
        }
    }

    private static void noSuchEntry() {
        for (int entry : new int[] {-1, 5, 23, 24, Integer.MIN_VALUE, Integer.MAX_VALUE}) {
            Trace.refusesIndex("remove " + entry, Make::rich, x -> x.remove(entry));
        }
        Trace.refusesIndex("remove of none", Make::fresh, x -> x.remove(0));
        Trace.refusesIndex("the 25th", Make::full, x -> x.remove(24));
        Check.same("the last one", Make.rich().remove(4), 4);
        Check.same("the first one", Make.rich().remove(0), 4);
        Check.same("the 24th", Make.full().remove(23), 23);
    }

    // ---- set

    private static void changes() {
        StenoChords x = Make.rich();
        x.set(1, 3);
        Check.same("setting 1", x.setting(1), 3);
        Check.same("setting 0 stays", x.setting(0), 1);
        x.set(0, 0);
        Check.same("setting 0", x.setting(0), 0);
        Check.same("setting 1 stays", x.setting(1), 3);
        Check.sameText("what is read changes with it", Check.items(x), "1200000");
        x.set(1, 4);
        Check.sameText("and back", Check.items(x), "1240");
    }

    private static void setUndoable() {
        for (int value = 0; value <= 1; value++) {
            int what = value;
            Trace.undoable("set 0 " + value, Make::rich, x -> x.set(0, what));
        }
        for (int value = 1; value <= 4; value++) {
            int what = value;
            Trace.undoable("set 1 " + value, Make::rich, x -> x.set(1, what));
        }
    }

    private static void bothSettings() {
        StenoChords x = new StenoChords();
        Check.same("the setting 0", x.set(0, 1), 0);
        Check.same("the setting 1", x.set(1, 1), 4);
        Check.same("the setting 0 then", x.setting(0), 1);
    }

    private static void everyValue() {
        for (int value = 0; value <= 1; value++) {
            StenoChords x = new StenoChords();
            x.set(0, value);
            Check.same("setting 0", x.setting(0), value);
        }
        for (int value = 1; value <= 4; value++) {
            StenoChords x = new StenoChords();
            x.set(1, value);
            Check.same("setting 1", x.setting(1), value);
        }
    }

    private static void previous() {
        StenoChords x = new StenoChords();
        int[] values = {1, 1, 0, 0, 1};
        int before = 0;
        for (int value : values) {
            Check.same("the previous value of 0", x.set(0, value), before);
            before = value;
        }
        int[] longest = {1, 1, 3, 2, 4, 4};
        before = 4;
        for (int value : longest) {
            Check.same("the previous value of 1", x.set(1, value), before);
            before = value;
        }
    }

    private static void noSuchSetting() {
        for (int setting : new int[] {-1, 2, Integer.MIN_VALUE, Integer.MAX_VALUE}) {
            for (int value : new int[] {-1, 0, 1, 4, 5}) {
                Trace.refusesIndex("set " + setting + " " + value, Make::rich, x -> x.set(setting, value));
            }
        }
    }

    private static void noSuchValue() {
        for (int value : new int[] {-1, 2, 4, Integer.MIN_VALUE, Integer.MAX_VALUE}) {
            Trace.refusesArgument("set 0 " + value, Make::rich, x -> x.set(0, value));
        }
        for (int value : new int[] {-1, 0, 5, Integer.MIN_VALUE, Integer.MAX_VALUE}) {
            Trace.refusesArgument("set 1 " + value, Make::rich, x -> x.set(1, value));
        }
    }
}
