import java.util.Arrays;

/** The sentences of the promises 15 to 19, each with a test of its own. */
final class LooksBounds {
    private static final int NONE = StenoChords.NONE;

    private LooksBounds() {
    }

    static void run(Document document) {
        document.under("Promise 15: stroke");
        document.says("Returns a stroke of the paper.", LooksBounds::strokeOfThePaper);
        document.says("- `place`: 0 for the first one", LooksBounds::everyPlace);
        document.says("Returns the stroke, as a mask.", LooksBounds::asAMask);
        document.says("Throws `IndexOutOfBoundsException` if there is no such place", LooksBounds::noSuchPlace);
        item(document);
        entry(document);
        count(document);
        document.under("Promise 19: setting");
        document.says("Returns a setting.", LooksBounds::settingOfANewObject);
        document.says("- `setting`: 0 or 1", LooksBounds::bothSettings);
        document.says("Returns its value.", LooksBounds::everyValue);
        document.says("Throws `IndexOutOfBoundsException` if there is no such setting", LooksBounds::noSuchSetting);
    }

    private static void item(Document document) {
        document.under("Promise 16: item");
        document.says("Tells something of an item.", LooksBounds::tellsOfEachItem);
        document.says("- `item`: its number, from 0", LooksBounds::everyItem);
        document.says("- `what`: 0: its word, NONE if it is raw;", LooksBounds::wordOfAnItem);
        document.says("1: the place of its first stroke;", LooksBounds::placeOfAnItem);
        document.says("2: its strokes, how many;", LooksBounds::strokesOfAnItem);
        document.says("3: the number of its entry, NONE if it is raw;", LooksBounds::entryOfAnItem);
        document.says("4: entries with its row, how many", LooksBounds::rivalsOfAnItem);
        document.says("Returns the number.", LooksBounds::tellsOfEachItem);
        document.says("Throws `IndexOutOfBoundsException` if there is no such item", LooksBounds::noSuchItem);
        document.says("Throws `IllegalArgumentException` if what is not 0 to 4", LooksBounds::notOfAnItem);
    }

    private static void entry(Document document) {
        document.under("Promise 17: entry");
        document.says("Tells something of an entry.", LooksBounds::tellsOfEachEntry);
        document.says("- `entry`: its number", LooksBounds::everyEntry);
        document.says("- `what`: 0: its word;", LooksBounds::wordOfAnEntry);
        document.says("1: its strokes, how many;", LooksBounds::strokesOfAnEntry);
        document.says("2 to 5: its strokes, NONE if it has not so many;", LooksBounds::eachStrokeOfAnEntry);
        document.says("6: how often it was picked;", LooksBounds::picksOfAnEntry);
        document.says("7: 1 if it is the leading one of its rivals, otherwise 0;", LooksBounds::leadsOrNot);
        document.says("8: items that stand for it, how many;", LooksBounds::itemsOfAnEntry);
        document.says("9: keys of all its strokes, how many", LooksBounds::keysOfAnEntry);
        document.says("Returns the number.", LooksBounds::tellsOfEachEntry);
        document.says("Throws `IndexOutOfBoundsException` if there is no such entry", LooksBounds::noSuchEntry);
        document.says("Throws `IllegalArgumentException` if what is not 0 to 9", LooksBounds::notOfAnEntry);
    }

    private static void count(Document document) {
        document.under("Promise 18: count");
        document.says("Returns a number.", LooksBounds::countsOfARichOne);
        document.says("- `what`: 0: strokes on the paper;", LooksBounds::strokesOnThePaper);
        document.says("1: items, told stroke by stroke: these strokes are put on another paper one behind the other, "
                + "and with each one only those items are read anew that begin with it, or with one of the three "
                + "strokes ahead of it;", LooksBounds::itemsStrokeByStroke);
        document.says("2: items, told by reading all strokes anew;", LooksBounds::itemsReadAnew);
        document.says("3: raw items;", LooksBounds::rawItems);
        document.says("4: entries;", LooksBounds::entriesCounted);
        document.says("5: strokes struck so far, without asterisks;", LooksBounds::struckSoFar);
        document.says("6: strokes eaten so far;", LooksBounds::eatenSoFar);
        document.says("7: asterisks so far;", LooksBounds::asterisksSoFar);
        document.says("8: keys struck so far, in strokes;", LooksBounds::keysSoFar);
        document.says("9: saved states", LooksBounds::savedStates);
        document.says("Returns the number.", LooksBounds::countsOfARichOne);
        document.says("Throws `IllegalArgumentException` if what is not 0 to 9", LooksBounds::notCounted);
    }

    // ---- stroke

    private static void strokeOfThePaper() {
        StenoChords x = Make.rich();
        int[] due = {1, 1, 2, 4, 8, 16, 32, 64};
        for (int place = 0; place < due.length; place++) {
            Check.same("the stroke at " + place, x.stroke(place), due[place]);
        }
        Trace.looks("stroke", Make::rich, y -> y.stroke(0));
        x.strike(0);
        Check.same("those that are left", x.stroke(6), 32);
        Check.refusesIndex(x, "the eaten one", () -> x.stroke(7));
    }

    private static void everyPlace() {
        StenoChords x = new StenoChords();
        for (int place = 0; place < 60; place++) {
            x.strike(1 + 17 * place);
        }
        for (int place = 0; place < 60; place++) {
            Check.same("the place " + place, x.stroke(place), 1 + 17 * place);
        }
    }

    private static void asAMask() {
        for (int mask : new int[] {1, 2, 512, 511, 1022, 1023}) {
            StenoChords x = new StenoChords();
            x.strike(mask);
            Check.same("the mask", x.stroke(0), mask);
        }
    }

    private static void noSuchPlace() {
        for (int place : new int[] {-1, 8, 59, 60, Integer.MIN_VALUE, Integer.MAX_VALUE}) {
            Trace.refusesIndex("stroke " + place, Make::rich, x -> x.stroke(place));
        }
        Trace.refusesIndex("stroke 0 of none", Make::fresh, x -> x.stroke(0));
        Trace.refusesIndex("stroke 60 of 60", Make::full, x -> x.stroke(60));
        Trace.refusesIndex("stroke -1 of 60", Make::full, x -> x.stroke(-1));
        Check.same("the last one", Make.rich().stroke(7), 64);
    }

    // ---- item

    private static void itemIs(StenoChords x, int item, int... numbers) {
        for (int what = 0; what < numbers.length; what++) {
            Check.same("item " + item + ", " + what, x.item(item, what), numbers[what]);
        }
    }

    private static void tellsOfEachItem() {
        StenoChords x = Make.rich();
        itemIs(x, 0, 1, 0, 1, 1, 2);
        itemIs(x, 1, 2, 1, 2, 2, 1);
        itemIs(x, 2, 3, 3, 4, 3, 1);
        itemIs(x, 3, NONE, 7, 1, NONE, 0);
        Trace.looks("item", Make::full, y -> y.item(0, 4));
    }

    private static void everyItem() {
        StenoChords x = Make.raw(60);
        for (int item = 0; item < 60; item++) {
            Check.same("the item " + item, x.item(item, 1), item);
        }
    }

    private static void wordOfAnItem() {
        for (int word : new int[] {0, 1, 98, 99}) {
            StenoChords x = new StenoChords();
            Check.define(x, "s", word);
            x.strike(1);
            x.strike(2);
            Check.same("its word", x.item(0, 0), word);
            Check.same("raw", x.item(1, 0), NONE);
        }
    }

    private static void placeOfAnItem() {
        StenoChords x = Check.withEntries("s/s/s/s");
        Check.strikeOften(x, 1, 60);
        for (int item = 0; item < 15; item++) {
            Check.same("its place", x.item(item, 1), 4 * item);
        }
        x.set(1, 3);
        Check.same("the last of 60 raw ones", x.item(59, 1), 59);
    }

    private static void strokesOfAnItem() {
        StenoChords x = Check.withEntries("s", "t/s", "k/t/s", "p/k/t/s");
        Check.play(x, "d/s/t/s/k/t/s/p/k/t/s");
        int[] due = {1, 1, 2, 3, 4};
        for (int item = 0; item < 5; item++) {
            Check.same("its strokes", x.item(item, 2), due[item]);
        }
    }

    private static void entryOfAnItem() {
        StenoChords x = Make.fullEntries();
        Check.play(x, "s/stkpaoerld/d");
        Check.same("the first entry", x.item(0, 3), 0);
        x.pick(0, 12);
        Check.same("its rival", x.item(0, 3), 12);
        x.pick(1, 23);
        Check.same("the last entry", x.item(1, 3), 23);
        Check.same("raw", x.item(2, 3), NONE);
        x.remove(12);
        Check.same("the first one again", x.item(0, 3), 0);
        Check.same("one less", x.item(1, 3), 22);
    }

    private static void rivalsOfAnItem() {
        StenoChords x = new StenoChords();
        x.strike(1);
        Check.same("none", x.item(0, 4), 0);
        for (int word = 0; word < 24; word++) {
            Check.define(x, "s", word);
            Check.same("entries with its row", x.item(0, 4), word + 1);
        }
        x.remove(7);
        Check.define(x, "s/s", 0);
        Check.same("another row counts not", x.item(0, 4), 23);
    }

    private static void noSuchItem() {
        for (int item : new int[] {-1, 4, 8, 60, Integer.MIN_VALUE, Integer.MAX_VALUE}) {
            for (int what = -1; what <= 5; what++) {
                int number = what;
                Trace.refusesIndex("item " + item + " " + what, Make::rich, x -> x.item(item, number));
            }
        }
        Trace.refusesIndex("item 0 of none", Make::fresh, x -> x.item(0, 0));
        Trace.refusesIndex("item 60 of 60", () -> Make.raw(60), x -> x.item(60, 0));
    }

    private static void notOfAnItem() {
        for (int what : new int[] {-1, 5, Integer.MIN_VALUE, Integer.MAX_VALUE}) {
            Trace.refusesArgument("item 0 " + what, Make::rich, x -> x.item(0, what));
            Trace.refusesArgument("item 3 " + what, Make::rich, x -> x.item(3, what));
        }
    }

    // ---- entry

    private static void entryIs(StenoChords x, int entry, int... numbers) {
        for (int what = 0; what < numbers.length; what++) {
            Check.same("entry " + entry + ", " + what, x.entry(entry, what), numbers[what]);
        }
    }

    private static void tellsOfEachEntry() {
        StenoChords x = Make.rich();
        entryIs(x, 0, 0, 1, 1, NONE, NONE, NONE, 0, 0, 0, 1);
        entryIs(x, 1, 1, 1, 1, NONE, NONE, NONE, 1, 1, 1, 1);
        entryIs(x, 2, 2, 2, 1, 2, NONE, NONE, 0, 1, 1, 2);
        entryIs(x, 3, 3, 4, 4, 8, 16, 32, 0, 1, 1, 4);
        entryIs(x, 4, 4, 1, 512, NONE, NONE, NONE, 0, 1, 0, 1);
        Trace.looks("entry", Make::full, y -> y.entry(0, 8));
    }

    private static void everyEntry() {
        StenoChords x = Make.fullEntries();
        for (int entry = 0; entry < 24; entry++) {
            Check.same("the entry " + entry, x.entry(entry, 0), entry);
        }
    }

    private static void wordOfAnEntry() {
        for (int word = 0; word <= 99; word++) {
            StenoChords x = Check.withEntries("s");
            Check.define(x, "t", word);
            Check.same("its word", x.entry(1, 0), word);
        }
    }

    private static void strokesOfAnEntry() {
        String longest = "stkpaoerld/stkpaoerld/stkpaoerld/stkpaoerld";
        StenoChords x = Check.withEntries("stkp", "s/t", "s/t/k", longest);
        for (int entry = 0; entry < 4; entry++) {
            Check.same("its strokes", x.entry(entry, 1), entry + 1);
        }
    }

    private static void eachStrokeOfAnEntry() {
        String text = "s/sd/stkpaoerld/d";
        int[] masks = {1, 513, 1023, 512};
        for (int strokes = 1; strokes <= 4; strokes++) {
            String[] parts = text.split("/");
            StenoChords x = Check.withEntries(String.join("/", Arrays.copyOf(parts, strokes)));
            for (int place = 0; place < 4; place++) {
                Check.same("the stroke " + place + " of " + strokes, x.entry(0, 2 + place), place < strokes ? masks[place] : NONE);
            }
        }
    }

    private static void picksOfAnEntry() {
        StenoChords x = Check.withEntries("s", "s");
        x.strike(1);
        Check.same("never", x.entry(1, 6), 0);
        for (int times = 1; times <= 100; times++) {
            x.pick(0, 1);
            Check.same("so often", x.entry(1, 6), times);
        }
        Check.same("the other one never", x.entry(0, 6), 0);
    }

    private static void leadsOrNot() {
        StenoChords x = Check.withEntries("s", "s", "s", "t");
        x.strike(1);
        leaderIs(x, 0);
        x.pick(0, 2);
        leaderIs(x, 2);
        x.pick(0, 1);
        leaderIs(x, 1);
        x.pick(0, 0);
        leaderIs(x, 0);
        x.pick(0, 2);
        leaderIs(x, 2);
        Check.same("alone with its row", x.entry(3, 7), 1);
        StenoChords y = Check.withEntries("s/t/k/p");
        y.set(1, 3);
        Check.same("alone, though it is passed over", y.entry(0, 7), 1);
        StenoChords z = Make.fullEntries();
        for (int entry = 0; entry < 24; entry++) {
            Check.same("of each two the first one", z.entry(entry, 7), entry < 12 ? 1 : 0);
        }
        for (int entry = 0; entry < 12; entry++) {
            z.remove(0);
            Check.same("the second one, left alone", z.entry(11, 7), 1);
        }
        StenoChords w = Check.withEntries(manyRows());
        for (int entry = 0; entry < 24; entry++) {
            Check.same("each of 24 rows alone", w.entry(entry, 7), 1);
        }
    }

    /** 24 rows, no two the same. */
    private static String[] manyRows() {
        String[] letters = "s t k p a o e r".split(" ");
        String[] rows = new String[24];
        for (int row = 0; row < 24; row++) {
            rows[row] = letters[row % 8] + "/s".repeat(row / 8);
        }
        return rows;
    }

    private static void leaderIs(StenoChords x, int leader) {
        for (int entry = 0; entry < 3; entry++) {
            Check.same("leads", x.entry(entry, 7), entry == leader ? 1 : 0);
        }
    }

    private static void itemsOfAnEntry() {
        StenoChords x = Check.withEntries("s", "s", "s/s");
        Check.same("none on an empty paper", x.entry(0, 8), 0);
        Check.play(x, "s/t/s/t/s/s/s");
        itemsAre(x, 3, 0, 1);
        x.pick(0, 1);
        itemsAre(x, 0, 3, 1);
        x.set(1, 1);
        itemsAre(x, 0, 5, 0);
        StenoChords y = Check.withEntries("s");
        Check.strikeOften(y, 1, 60);
        Check.same("all 60", y.entry(0, 8), 60);
    }

    private static void itemsAre(StenoChords x, int... due) {
        for (int entry = 0; entry < due.length; entry++) {
            Check.same("items that stand for " + entry, x.entry(entry, 8), due[entry]);
        }
    }

    private static void keysOfAnEntry() {
        String all = "stkpaoerld";
        StenoChords x = Check.withEntries("s", all, "d/d", all + "/" + all + "/" + all + "/" + all, "sd/k/ta");
        int[] due = {1, 10, 2, 40, 5};
        for (int entry = 0; entry < due.length; entry++) {
            Check.same("its keys", x.entry(entry, 9), due[entry]);
        }
    }

    private static void noSuchEntry() {
        for (int entry : new int[] {-1, 5, 24, Integer.MIN_VALUE, Integer.MAX_VALUE}) {
            for (int what = -1; what <= 10; what++) {
                int number = what;
                Trace.refusesIndex("entry " + entry + " " + what, Make::rich, x -> x.entry(entry, number));
            }
        }
        Trace.refusesIndex("entry 0 of none", Make::fresh, x -> x.entry(0, 0));
        Trace.refusesIndex("entry 24 of 24", Make::fullEntries, x -> x.entry(24, 0));
        Check.same("entry 23 of 24", Make.fullEntries().entry(23, 0), 23);
    }

    private static void notOfAnEntry() {
        for (int what : new int[] {-1, 10, Integer.MIN_VALUE, Integer.MAX_VALUE}) {
            Trace.refusesArgument("entry 0 " + what, Make::rich, x -> x.entry(0, what));
            Trace.refusesArgument("entry 4 " + what, Make::rich, x -> x.entry(4, what));
        }
    }

    // ---- count

    private static void countsOfARichOne() {
        int[] due = {8, 4, 4, 1, 5, 9, 1, 1, 9, 1};
        StenoChords x = Make.rich();
        for (int what = 0; what <= 9; what++) {
            Check.same("count " + what, x.count(what), due[what]);
            int number = what;
            Trace.looks("count " + what, Make::full, y -> y.count(number));
        }
    }

    private static void strokesOnThePaper() {
        StenoChords x = new StenoChords();
        Check.same("none", x.count(0), 0);
        for (int strokes = 1; strokes <= 60; strokes++) {
            x.strike(strokes);
            Check.same("so many", x.count(0), strokes);
        }
        for (int strokes = 59; strokes >= 0; strokes--) {
            x.strike(0);
            Check.same("one less", x.count(0), strokes);
        }
    }

    private static void itemsStrokeByStroke() {
        for (int row = 1; row <= 4; row++) {
            for (int strokes = 0; strokes <= 60; strokes++) {
                StenoChords x = Check.withEntries("s/s/s/s".substring(0, 2 * row - 1));
                Check.strikeOften(x, 1, strokes);
                Check.same("rows of " + row + " in " + strokes, x.count(1), strokes / row + strokes % row);
            }
        }
        StenoChords x = Check.withEntries("s/t", "t/k/p/a", "s/t/k/p", "k", "p/a/o");
        int[] strokes = {1, 2, 4, 8, 16, 32, 2, 4, 8, 16};
        int[] due = {1, 1, 2, 1, 2, 3, 4, 5, 6, 4};
        for (int i = 0; i < strokes.length; i++) {
            x.strike(strokes[i]);
            Check.same("stroke by stroke, behind " + (i + 1), x.count(1), due[i]);
        }
    }

    private static void itemsReadAnew() {
        for (int row = 1; row <= 4; row++) {
            StenoChords x = Check.withEntries("s/s/s/s".substring(0, 2 * row - 1));
            for (int strokes = 1; strokes <= 60; strokes++) {
                x.strike(1);
                Check.same("rows of " + row + " in " + strokes, x.count(2), strokes / row + strokes % row);
            }
            x.remove(0);
            Check.same("without an entry", x.count(2), 60);
        }
        Check.same("none", new StenoChords().count(2), 0);
    }

    private static void rawItems() {
        Check.same("none", new StenoChords().count(3), 0);
        Check.same("all 60", Make.raw(60).count(3), 60);
        StenoChords x = Check.withEntries("s/s");
        Check.strikeOften(x, 1, 59);
        Check.same("the last one", x.count(3), 1);
        x.strike(1);
        Check.same("none of 60", x.count(3), 0);
        x.set(1, 1);
        Check.same("passed over", x.count(3), 60);
    }

    private static void entriesCounted() {
        StenoChords x = new StenoChords();
        Check.same("none", x.count(4), 0);
        for (int entries = 1; entries <= 24; entries++) {
            Check.define(x, "s", entries);
            Check.same("so many", x.count(4), entries);
        }
        for (int entries = 23; entries >= 0; entries--) {
            x.remove(0);
            Check.same("one less", x.count(4), entries);
        }
    }

    private static void struckSoFar() {
        StenoChords x = Make.raw(60);
        x.tear();
        Check.same("torn ones too", x.count(5), 60);
        Check.strikeOften(x, 1, 60);
        Check.same("more than there is room for", x.count(5), 120);
        x.strike(0);
        Check.same("without asterisks", x.count(5), 120);
        Check.same("played ones too", Check.play(x, "s/*/t/k"), 3);
        Check.same("those that were struck alone", x.count(5), 122);
        x.undo();
        Check.same("undone", x.count(5), 120);
    }

    private static void eatenSoFar() {
        StenoChords x = Check.withEntries("s/s/s/s");
        Check.strikeOften(x, 1, 60);
        x.set(0, 1);
        for (int items = 1; items <= 15; items++) {
            x.strike(0);
            Check.same("whole items", x.count(6), 4 * items);
        }
        Check.strikeOften(x, 2, 5);
        x.tear();
        Check.same("not torn ones", x.count(6), 60);
        x.strike(1);
        x.set(0, 0);
        x.strike(0);
        Check.same("one more", x.count(6), 61);
        x.undo();
        Check.same("undone", x.count(6), 60);
    }

    private static void asterisksSoFar() {
        StenoChords x = Check.withEntries("s/s/s/s");
        Check.strikeOften(x, 1, 8);
        x.set(0, 1);
        x.strike(0);
        Check.same("one, though it eats four", x.count(7), 1);
        Check.same("played: one, and one that is not struck", Check.play(x, "*/*"), 1);
        Check.same("two", x.count(7), 2);
        x.undo();
        Check.same("undone", x.count(7), 1);
    }

    private static void keysSoFar() {
        StenoChords x = new StenoChords();
        int keys = 0;
        for (int stroke = 1; stroke <= 60; stroke++) {
            x.strike(stroke * 17);
            keys += Integer.bitCount(stroke * 17);
            Check.same("keys", x.count(8), keys);
        }
        x.strike(0);
        Check.same("eaten ones stay", x.count(8), keys);
        x.strike(1023);
        Check.same("all ten", x.count(8), keys + 10);
        x.tear();
        Check.same("torn ones stay", x.count(8), keys + 10);
        x.undo();
        x.undo();
        Check.same("undone", x.count(8), keys);
    }

    private static void savedStates() {
        for (int calls = 0; calls <= 9; calls++) {
            Check.same("saved", Make.raw(calls).count(9), Math.min(calls, 6));
        }
        StenoChords x = Make.busy();
        x.undo();
        Check.same("one less", x.count(9), 5);
        x.keep();
        Check.same("a snapshot is none of them", x.count(9), 5);
        x.goBack();
        x.goBack();
        Check.same("goBack saves one", x.count(9), 6);
    }

    private static void notCounted() {
        for (int what : new int[] {-1, 10, Integer.MIN_VALUE, Integer.MAX_VALUE}) {
            Trace.refusesArgument("count " + what, Make::rich, x -> x.count(what));
            Trace.refusesArgument("count " + what + " of a new object", Make::fresh, x -> x.count(what));
        }
    }

    // ---- setting

    private static void settingOfANewObject() {
        StenoChords x = new StenoChords();
        Check.same("setting 0", x.setting(0), 0);
        Check.same("setting 1", x.setting(1), 4);
        Trace.looks("setting", Make::full, y -> y.setting(1));
    }

    private static void bothSettings() {
        StenoChords x = Make.rich();
        Check.same("setting 0", x.setting(0), 1);
        Check.same("setting 1", x.setting(1), 4);
    }

    private static void everyValue() {
        for (int eats = 0; eats <= 1; eats++) {
            for (int longest = 1; longest <= 4; longest++) {
                StenoChords x = new StenoChords();
                x.set(0, eats);
                x.set(1, longest);
                Check.same("setting 0", x.setting(0), eats);
                Check.same("setting 1", x.setting(1), longest);
            }
        }
    }

    private static void noSuchSetting() {
        for (int setting : new int[] {-1, 2, Integer.MIN_VALUE, Integer.MAX_VALUE}) {
            Trace.refusesIndex("setting " + setting, Make::rich, x -> x.setting(setting));
        }
    }
}
