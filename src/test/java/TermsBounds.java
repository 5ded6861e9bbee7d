import java.lang.reflect.Method;
import java.lang.reflect.Modifier;
import java.util.List;
import java.util.function.Supplier;

/** The sentences of "Terms", each with a test of its own. */
final class TermsBounds {
    private static final String LETTERS = "stkpaoerld";
    private static final int NONE = StenoChords.NONE;

    private TermsBounds() {
    }

    static void run(Document document) {
        numbers(document);
        use(document);
        strokes(document);
        entries(document);
        reading(document);
        settings(document);
        inputText(document);
        undo(document);
        exceptions(document);
    }

    private static void numbers(Document document) {
        document.under("Terms");
        document.says("All numbers are integers, but for two shares.", TermsBounds::allButTwoAreIntegers);
    }

    private static void use(Document document) {
        document.under("What it is");
        document.says("An object is used for at most 512 calls after it has been made",
                TermsBounds::fiveHundredAndTwelveCalls);
    }

    private static void strokes(Document document) {
        document.under("Strokes");
        document.says("There are 10 keys, numbered from 0, with the letters s, t, k, p, a, o, e, r, l and d, in this order.",
                TermsBounds::tenKeys);
        document.says("A stroke is a set of at least one key, told as a mask from 1 to 1023 (the bit k for the key k).",
                TermsBounds::everyMask);
        document.says("An asterisk is struck alone, it is told as 0.", TermsBounds::asteriskAlone);
    }

    private static void entries(Document document) {
        document.under("Entries, words");
        document.says("There are at most 24 entries, numbered from 0 in the order in which they came; when one goes, "
                + "the numbers of those behind it become 1 less.", TermsBounds::twentyFourEntries);
        document.says("An entry has a row of 1 to 4 strokes, a word, told as a number from 0 to 99, and how often it "
                + "was picked, at first 0.", TermsBounds::whatAnEntryHas);
        document.says("No two entries have the same row and the same word.", TermsBounds::noTwoTheSame);
        document.says("Entries with the same row are rivals; the leading one of them is the one that was picked most "
                + "often, of several the one that came first.", TermsBounds::rivals);
    }

    private static void reading(Document document) {
        document.under("The paper, reading");
        document.says("On the paper there are at most 60 strokes, one behind the other (asterisks are not put on it).",
                TermsBounds::sixtyStrokes);
        document.says("They are read so: from the first stroke on, if some row of an entry is the strokes that come "
                + "next, the longest such row is taken; these strokes are an item, which stands for the word of the "
                + "leading entry with this row.", TermsBounds::longestRow);
        document.says("If there is none, the next stroke is an item by itself, a raw one.", TermsBounds::rawItems);
        document.says("Then it is read on behind the item, and so on.", TermsBounds::readOn);
        document.says("An asterisk eats strokes: with setting 0 as 0 the last stroke on the paper, with setting 0 as 1 "
                + "all strokes of the last item.", TermsBounds::eaten);
        document.says("Behind that all strokes that are left are read anew, in the same way.", TermsBounds::readAnew);
        document.says("To pick an entry for an item means that the entry, which has the row of the item, was picked "
                + "once more.", TermsBounds::pickedOnceMore);
    }

    private static void settings(Document document) {
        document.under("Settings");
        document.says("0: what an asterisk eats, 0 or 1, at first 0;", TermsBounds::whatIsEaten);
        document.says("1: the longest row that is read, 1 to 4, at first 4 (longer rows of entries are passed over).",
                TermsBounds::longestThatIsRead);
    }

    private static void inputText(Document document) {
        document.under("Input text");
        document.says("The buffer has at most 60 characters.", TermsBounds::sixtyCharacters);
        document.says("Strokes as a text are one or more strokes with \"/\" between them; a stroke is its letters, in "
                + "the order of the keys, each at most once, or \"*\" alone, an asterisk.", TermsBounds::strokesAsText);
        document.says("The buffer is read from left to right; a character is a syntax error if no strokes as a text, "
                + "of any length, begin with the characters before it and this character.", TermsBounds::syntaxError);
    }

    private static void undo(Document document) {
        document.under("Undo");
        document.says("Each method that is marked \"undoable\" and does not throw an exception saves the state from "
                + "before it (also if it changes nothing): all, also what is counted so far, but the buffer, the "
                + "snapshot and the saved states.", TermsBounds::everyCallSavesOrNot);
        document.says("(also if it changes nothing)", TermsBounds::savesWithoutAChange);
        document.says("At most 6 states are saved; the oldest one is dropped first.", TermsBounds::sixSaved);
    }

    private static void exceptions(Document document) {
        document.under("Exceptions");
        document.says("A call that throws an exception changes nothing.", TermsBounds::throwingChangesNothing);
        document.says("If several exceptions apply, the one that is named first in the throws clause is thrown.",
                TermsBounds::firstNamedIsThrown);
        document.says("The constants: `NONE = -1`: There is nothing to return.", TermsBounds::nothingToReturn);
    }

    // ---- what it is

    private static void allButTwoAreIntegers() {
        for (Method method : StenoChords.class.getDeclaredMethods()) {
            if (Modifier.isPublic(method.getModifiers())) {
                String due = switch (method.getName()) {
                    case "readShare" -> "double";
                    case "meanKeys" -> "float";
                    case "digest" -> "long";
                    default -> "int";
                };
                Check.sameText("what " + method.getName() + " returns", method.getReturnType().getName(), due);
            }
        }
    }

    private static void fiveHundredAndTwelveCalls() {
        StenoChords x = new StenoChords();
        for (int call = 1; call <= 510; call++) {
            x.strike(call % 2 == 1 ? 1023 : 0);
        }
        Check.same("the 511th call", x.count(8), 2550);
        Check.same("the 512th call", x.count(5), 255);
        StenoChords y = Check.withEntries("s");
        y.strike(1);
        for (int call = 4; call <= 511; call++) {
            Check.same("picked again", y.pick(0, 0), call - 3);
        }
        Check.same("the 512th call: picked", y.entry(0, 6), 508);
        StenoChords z = new StenoChords();
        for (int call = 1; call <= 511; call++) {
            z.keep();
        }
        Check.same("the 512th call: undoable ones", z.count(9), 0);
    }

    // ---- strokes

    private static void tenKeys() {
        for (int code = 33; code <= 126; code++) {
            StenoChords x = new StenoChords();
            x.append(code);
            boolean begins = code == '*' || LETTERS.indexOf(code) >= 0;
            Check.same("firstError of the code " + code, x.firstError(), begins ? 1 : 0);
        }
        for (int key = 0; key < 10; key++) {
            StenoChords x = new StenoChords();
            x.append(LETTERS.charAt(key));
            Check.same("the key is struck", x.play(), 1);
            Check.same("the bit of the key " + key, x.stroke(0), 1 << key);
        }
    }

    private static void everyMask() {
        for (int mask = 1; mask <= 1023; mask++) {
            StenoChords x = new StenoChords();
            StringBuilder text = new StringBuilder();
            for (int key = 0; key < 10; key++) {
                if ((mask >> key & 1) == 1) {
                    text.append(LETTERS.charAt(key));
                }
            }
            Check.same("a stroke as a text", Check.play(x, text.toString()), 1);
            Check.same("its mask", x.stroke(0), mask);
            x.strike(mask);
            Check.same("the mask struck", x.stroke(1), mask);
            Check.same("its keys", x.count(8), 2 * text.length());
        }
        Trace.refusesArgument("a mask below 0", Make::rich, x -> x.strike(-1));
        Trace.refusesArgument("a mask above 1023", Make::rich, x -> x.strike(1024));
        Check.same("no set of keys without a key", Check.withEntries("s").entry(0, 3), NONE);
    }

    private static void asteriskAlone() {
        StenoChords x = Make.raw(2);
        x.strike(0);
        Check.same("0 is an asterisk", x.count(7), 1);
        Check.same("it eats", x.count(0), 1);
        Check.same("* is an asterisk", Check.play(x, "*"), 1);
        Check.same("and is told so", x.count(7), 2);
        for (String text : new String[] {"*s", "s*", "**", "*/**", "d*/s"}) {
            StenoChords y = Make.raw(9);
            Check.type(y, text);
            Check.refusesArgument(y, "play of " + text, y::play);
        }
    }

    // ---- entries, words

    private static void twentyFourEntries() {
        StenoChords x = new StenoChords();
        for (int number = 0; number < 24; number++) {
            Check.same("numbered as they came", Check.define(x, Make.ROWS[number % 12], 99 - number), number);
        }
        Check.same("24 entries", x.count(4), 24);
        Check.type(x, "d");
        Check.refusesState(x, "one more", () -> x.define(50));
        numbersAre("all", x, 0, 1, 2, 3, 4, 5, 6, 7, 8, 9, 10, 11, 12, 13, 14, 15, 16, 17, 18, 19, 20, 21, 22, 23);
        x.remove(23);
        numbersAre("the last one gone", x, 0, 1, 2, 3, 4, 5, 6, 7, 8, 9, 10, 11, 12, 13, 14, 15, 16, 17, 18, 19, 20, 21, 22);
        x.remove(0);
        numbersAre("the first one gone", x, 1, 2, 3, 4, 5, 6, 7, 8, 9, 10, 11, 12, 13, 14, 15, 16, 17, 18, 19, 20, 21, 22);
        x.remove(10);
        numbersAre("one between gone", x, 1, 2, 3, 4, 5, 6, 7, 8, 9, 10, 12, 13, 14, 15, 16, 17, 18, 19, 20, 21, 22);
        Check.same("the next one comes last", x.define(50), 21);
        Check.same("room for two more", Check.define(x, "d", 51), 22);
        Check.same("room for one more", Check.define(x, "d", 52), 23);
        Check.type(x, "d");
        Check.refusesState(x, "full again", () -> x.define(53));
    }

    /** Tells by words and rows which of the entries of twentyFourEntries() there are. */
    private static void numbersAre(String what, StenoChords x, int... came) {
        Check.same(what + ": how many", x.count(4), came.length);
        for (int entry = 0; entry < came.length; entry++) {
            Check.same(what + ": word", x.entry(entry, 0), 99 - came[entry]);
            Check.same(what + ": strokes", x.entry(entry, 1), Make.ROWS[came[entry] % 12].split("/").length);
        }
        Check.refusesIndex(x, what + ": none behind", () -> x.entry(came.length, 0));
    }

    private static void whatAnEntryHas() {
        String[] rows = {"s", "s/t", "s/t/k", "s/t/k/p"};
        int[] words = {0, 1, 98, 99};
        StenoChords x = new StenoChords();
        for (int i = 0; i < 4; i++) {
            Check.same("a row of " + (i + 1), Check.define(x, rows[i], words[i]), i);
            Check.same("its strokes", x.entry(i, 1), i + 1);
            Check.same("its word", x.entry(i, 0), words[i]);
            Check.same("never picked", x.entry(i, 6), 0);
        }
        for (String text : new String[] {"", "s/t/k/p/a", "s/t/k/p/*", "stkp/a/o/e/r/l"}) {
            Check.type(x, text);
            Check.refusesArgument(x, "a row of " + text, () -> x.define(5));
            x.clearBuffer();
        }
        Check.type(x, "d");
        Check.refusesArgument(x, "the word -1", () -> x.define(-1));
        Check.refusesArgument(x, "the word 100", () -> x.define(100));
    }

    private static void noTwoTheSame() {
        StenoChords x = Make.fullEntries();
        x.remove(23);
        for (int word = 0; word < 23; word++) {
            int same = word;
            Check.type(x, Make.ROWS[word % 12]);
            Check.refusesState(x, "the same row and word as " + word, () -> x.define(same));
            x.clearBuffer();
        }
        Check.same("the same row, another word", Check.define(x, Make.ROWS[0], 23), 23);
        x.remove(23);
        Check.same("the same word, another row", Check.define(x, Make.ROWS[1], 0), 23);
        x.remove(23);
        x.remove(0);
        Check.same("the same as one that went", Check.define(x, Make.ROWS[0], 0), 22);
    }

    private static void rivals() {
        StenoChords x = Check.withEntries("s/t", "s", "s/t", "t/s", "s/t", "s/t/k");
        Check.play(x, "s/t");
        leads(x, "none picked: the first one", 0);
        x.pick(0, 4);
        leads(x, "picked once", 4);
        x.pick(0, 2);
        leads(x, "both once: the one that came first", 2);
        x.pick(0, 0);
        leads(x, "all once: the one that came first", 0);
        x.pick(0, 4);
        leads(x, "picked twice", 4);
        x.remove(4);
        leads(x, "the leading one gone", 0);
        x.remove(0);
        leads(x, "the next leading one gone", 1);
        Check.define(x, "s/t", 0);
        leads(x, "one that comes again comes last, never picked", 1);
        for (int entry : new int[] {0, 2, 3}) {
            Check.same("another row has no part in it", x.entry(entry, 7), 1);
        }
    }

    /** The item 0 has a row of two strokes; of the entries with this row just one leads. */
    private static void leads(StenoChords x, String what, int leader) {
        Check.same(what, x.item(0, 3), leader);
        Check.same(what + ": its word", x.item(0, 0), x.entry(leader, 0));
        for (int entry = 0; entry < x.count(4); entry++) {
            if (x.entry(entry, 2) == 1 && x.entry(entry, 3) == 2 && x.entry(entry, 4) == NONE) {
                Check.same(what + ": leads", x.entry(entry, 7), entry == leader ? 1 : 0);
            }
        }
    }

    // ---- the paper, reading

    private static void sixtyStrokes() {
        StenoChords x = new StenoChords();
        for (int place = 0; place < 60; place++) {
            x.strike(1000 - place);
            Check.same("one behind the other", x.count(0), place + 1);
        }
        Check.refusesState(x, "the 61st", () -> x.strike(1));
        Check.same("the asterisk is not put on it", x.strike(0), 59);
        for (int place = 0; place < 59; place++) {
            Check.same("in their order", x.stroke(place), 1000 - place);
        }
        Check.refusesIndex(x, "nothing behind them", () -> x.stroke(59));
        Check.same("strokes as a text come behind", Check.play(x, "s/*/t"), 3);
        Check.same("the last place", x.stroke(59), 2);
    }

    private static void longestRow() {
        StenoChords x = Check.withEntries("s", "s/s", "s/s/s", "s/s/s/s");
        String[] due = {"1", "2", "3", "4", "41", "42", "43", "44"};
        for (int strokes = 1; strokes <= 8; strokes++) {
            x.strike(1);
            Check.sameText("the longest of " + strokes, Check.items(x), due[strokes - 1]);
        }
        StenoChords y = Check.withEntries("t/k/p/a", "s", "s/t");
        Check.play(y, "s/t/k/p/a");
        Check.sameText("from the first stroke on", Check.items(y), "2000");
        atTheEndOfThePaper();
        Check.same("the word of the leading entry", Make.rich().item(0, 0), 1);
    }

    private static void atTheEndOfThePaper() {
        for (int row = 1; row <= 4; row++) {
            StenoChords x = Check.withEntries("s/t/k/p".substring(0, 2 * row - 1));
            Check.strikeOften(x, 512, 60 - row);
            for (int stroke = 0; stroke < row; stroke++) {
                Check.same("not yet whole", x.count(3), 60 - row + stroke);
                x.strike(1 << stroke);
            }
            Check.same("a row that ends with the 60th stroke", x.item(60 - row, 2), row);
            Check.same("raw ones ahead of it", x.count(3), 60 - row);
        }
    }

    private static void rawItems() {
        StenoChords x = Check.withEntries("s/t", "k/p/a/o");
        Check.play(x, "s/s/t/k/p/a/t");
        Check.sameText("raw ones", Check.items(x), "020000");
        for (int item : new int[] {0, 2, 3, 4, 5}) {
            Check.same("one stroke", x.item(item, 2), 1);
            Check.same("no word", x.item(item, 0), NONE);
        }
        Check.sameText("all raw without entries", Check.items(Make.raw(60)), "0".repeat(60));
        Check.sameText("a stroke with more keys is another one", Check.items(struck("s", "st/t/s")), "001");
    }

    private static StenoChords struck(String row, String text) {
        StenoChords x = Check.withEntries(row);
        Check.play(x, text);
        return x;
    }

    private static void readOn() {
        StenoChords x = Check.withEntries("s/t", "t/k", "k/s/t/k", "t");
        Check.play(x, "s/t/k/s/t/k/t/k/k/t");
        Check.sameText("behind each item", Check.items(x), "24201");
        int place = 0;
        for (int item = 0; item < 5; item++) {
            Check.same("just behind the one ahead", x.item(item, 1), place);
            place += x.item(item, 2);
        }
        Check.same("to the end", place, 10);
        Check.sameText("the same row again and again", Check.items(struck("s/s", "s/s/s/s/s")), "220");
    }

    private static void eaten() {
        for (int row = 1; row <= 4; row++) {
            StenoChords x = Check.withEntries("s/t/k/p".substring(0, 2 * row - 1));
            Check.play(x, "d/s/t/k/p".substring(0, 2 * row + 1));
            x.strike(0);
            Check.same("the last stroke", x.count(0), row);
            Check.same("one is eaten", x.count(6), 1);
            x.undo();
            x.set(0, 1);
            x.strike(0);
            Check.same("the last item", x.count(0), 1);
            Check.same("so many are eaten", x.count(6), row);
            Check.same("a raw item, to nothing", x.strike(0), 0);
            Check.same("one more is eaten", x.count(6), row + 1);
        }
        eatenOfAFullPaper();
        eatenAsItIsRead();
    }

    private static void eatenOfAFullPaper() {
        StenoChords x = Check.withEntries("s/s/s/s");
        Check.strikeOften(x, 1, 60);
        x.strike(0);
        Check.same("59 are left", x.count(0), 59);
        x.set(0, 1);
        x.strike(0);
        Check.same("58 are left, the last one was raw", x.count(0), 58);
        x.strike(0);
        x.strike(0);
        x.strike(0);
        Check.same("then whole items", x.count(0), 52);
        Check.same("eaten", x.count(6), 8);
    }

    private static void eatenAsItIsRead() {
        for (int longest = 1; longest <= 4; longest++) {
            StenoChords x = Check.withEntries("s", "s/s", "s/s/s", "s/s/s/s");
            Check.play(x, "s/s/s/s/s/s/s/s/s/s/s/s");
            x.set(0, 1);
            x.set(1, longest);
            x.strike(0);
            Check.same("the last item by setting 1", x.count(6), longest);
        }
        StenoChords y = Check.withEntries("s", "s");
        Check.play(y, "t/s/s");
        y.set(0, 1);
        y.remove(0);
        y.remove(0);
        Check.define(y, "t/s/s", 1);
        y.strike(0);
        Check.same("the last item by the entries that are left", y.count(6), 3);
    }

    private static void readAnew() {
        StenoChords x = Check.withEntries("s/t/k/p", "s", "t/k");
        Check.play(x, "s/t/k/p");
        Check.sameText("one item", Check.items(x), "4");
        Check.same("read anew", x.strike(0), 2);
        Check.sameText("what is left", Check.items(x), "12");
        x.set(0, 1);
        Check.same("the last item of those read anew", x.strike(0), 1);
        Check.same("strokes left", x.count(0), 1);
        Check.play(x, "t/k/p/*");
        Check.same("the whole row is one item again, and eaten", x.count(0), 0);
    }

    private static void pickedOnceMore() {
        StenoChords x = Check.withEntries("s", "s", "s/t");
        Check.play(x, "s/k/s/s/t");
        for (int times = 1; times <= 3; times++) {
            Check.same("once more", x.pick(0, 1), times);
            Check.same("told so", x.entry(1, 6), times);
        }
        Check.same("its rival was not", x.entry(0, 6), 0);
        Check.same("for another item with the row", x.pick(2, 1), 4);
        Check.same("for an item with another row", x.pick(3, 2), 1);
        x.tear();
        Check.same("it stays picked without the paper", x.entry(1, 6), 4);
        StenoChords y = struck("s", "t");
        Check.refusesState(y, "a raw item has no row", () -> y.pick(0, 0));
    }

    // ---- settings

    private static void whatIsEaten() {
        StenoChords x = new StenoChords();
        Check.same("at first 0", x.setting(0), 0);
        Check.same("to 1", x.set(0, 1), 0);
        Check.same("to 0", x.set(0, 0), 1);
        Check.same("0 then", x.setting(0), 0);
        Trace.refusesArgument("set(0, -1)", Make::rich, y -> y.set(0, -1));
        Trace.refusesArgument("set(0, 2)", Make::rich, y -> y.set(0, 2));
    }

    private static void longestThatIsRead() {
        StenoChords x = Check.withEntries("s", "s/t", "s/t/k", "s/t/k/p");
        Check.play(x, "s/t/k/p");
        Check.same("at first 4", x.setting(1), 4);
        String[] due = {"1000", "200", "30", "4"};
        for (int longest = 1; longest <= 4; longest++) {
            x.set(1, longest);
            Check.same("told", x.setting(1), longest);
            Check.sameText("longer rows are passed over", Check.items(x), due[longest - 1]);
            Check.same("though they stay", x.count(4), 4);
        }
        Trace.refusesArgument("set(1, 0)", Make::rich, y -> y.set(1, 0));
        Trace.refusesArgument("set(1, 5)", Make::rich, y -> y.set(1, 5));
    }

    // ---- input text

    private static void sixtyCharacters() {
        StenoChords x = new StenoChords();
        for (int length = 1; length <= 60; length++) {
            Check.same("room for it", x.append('~'), length);
        }
        Check.refusesState(x, "no room", () -> x.append('s'));
        Check.same("60 characters", x.clearBuffer(), 60);
        Check.same("room again", x.append('s'), 1);
    }

    private static void strokesAsText() {
        String[] fine = {"s", "d", "*", "stkpaoerld", "sd", "s/s", "*/*", "s/*/d", "*/stkpaoerld", "s/".repeat(29) + "st"};
        for (String text : fine) {
            StenoChords x = Make.raw(30);
            Check.same("strokes: " + text, Check.play(x, text), text.split("/").length);
        }
        String[] wrong = {"", "/", "s/", "*/", "/s", "s//s", "ss", "dd", "ds", "ts", "stks", "*s", "s*", "**", "S", "x",
            "s-t", "s/x", "s/t/", "s/".repeat(30)};
        for (String text : wrong) {
            Trace.refusesArgument("strokes: " + text, () -> typed(text), x -> x.play());
        }
    }

    private static StenoChords typed(String text) {
        StenoChords x = Make.raw(3);
        Check.type(x, text);
        return x;
    }

    private static void syntaxError() {
        String[] texts = {"", "s", "s/", "s/t", "*", "*/", "*/*", "/", "//", "s//", "ss", "st/ts", "*s", "s*", "**", "x",
            "sx", "s/x", "ss/s", "xss", "s/".repeat(30), "s/".repeat(29) + "st", "s/".repeat(29) + "ss",
            "s/".repeat(29) + "s*", "~".repeat(60), "stkpaoerld/".repeat(5) + "stkpd"};
        int[] errors = {0, 1, 2, 3, 1, 2, 3, 0, 0, 2, 1, 4, 1, 1, 1, 0, 1, 2, 1, 0, 60, 60, 59, 59, 0, 60};
        for (int i = 0; i < texts.length; i++) {
            Check.same("the first error of " + texts[i], typed(texts[i]).firstError(), errors[i]);
        }
        everyPairOfCharacters();
    }

    /** A beginning without an error, and each character behind it. */
    private static void everyPairOfCharacters() {
        for (String before : new String[] {"s", "e", "d", "*", "s/", "*/", "st/", "k/e", "se", "td"}) {
            for (int code = 33; code <= 126; code++) {
                char last = before.charAt(before.length() - 1);
                boolean between = last == '/';
                boolean key = LETTERS.indexOf(code) > LETTERS.indexOf(last) && last != '*';
                boolean fine = code == '/' ? !between : code == '*' ? between : between ? LETTERS.indexOf(code) >= 0 : key;
                StenoChords x = new StenoChords();
                Check.type(x, before);
                x.append(code);
                Check.same("the code " + code + " behind " + before, x.firstError(), before.length() + (fine ? 1 : 0));
            }
        }
    }

    // ---- undo

    private static void everyCallSavesOrNot() {
        for (Supplier<StenoChords> make : Make.all()) {
            for (Calls.Call call : Calls.all()) {
                savesOrNot(make, call);
            }
        }
    }

    private static void savesOrNot(Supplier<StenoChords> make, Calls.Call call) {
        StenoChords x = make.get();
        int saved = x.count(9);
        try {
            call.made().accept(x);
        } catch (IllegalArgumentException | IllegalStateException | IndexOutOfBoundsException e) {
            return;
        }
        switch (call.kind()) {
            case UNDOABLE -> {
                Check.same(call.told() + ": saved", x.count(9), Math.min(saved + 1, 6));
                if (saved < 6) {
                    Trace.undoable(call.told(), make, call.made());
                }
            }
            case UNDO -> Check.same(call.told() + ": saved", x.count(9), saved - 1);
            case KEEP -> Check.same(call.told() + ": saved", x.count(9), saved);
            case TEXT -> Check.sameText(call.told() + " changes the buffer alone",
                    Trace.of(Trace.withoutText(x)), Trace.of(Trace.withoutText(make.get())));
            default -> Check.sameText(call.told() + " changes nothing", Trace.of(x), Trace.of(make.get()));
        }
    }

    private static void savesWithoutAChange() {
        Trace.undoable("a setting to what it is", Make::rich, x -> x.set(0, x.setting(0)));
        Trace.undoable("the other one too", Make::fresh, x -> x.set(1, 4));
        Trace.undoable("tear of nothing", Make::fresh, x -> x.tear());
        Trace.undoable("play that strikes none", Make::fresh, x -> Check.play(x, "*"));
        Trace.undoable("goBack to what is", Make::rich, x -> x.goBack());
    }

    private static void sixSaved() {
        for (int calls = 0; calls <= 20; calls++) {
            StenoChords x = Make.raw(calls);
            int saved = Math.min(calls, 6);
            Check.same("saved behind " + calls, x.count(9), saved);
            for (int left = saved - 1; left >= 0; left--) {
                Check.same("undo", x.undo(), left);
            }
            Check.same("the oldest ones were dropped", x.count(0), calls - saved);
            Check.refusesState(x, "no more saved", x::undo);
        }
        undoInBetween();
    }

    private static void undoInBetween() {
        StenoChords x = Make.raw(9);
        for (int undone = 1; undone <= 4; undone++) {
            x.undo();
        }
        Check.strikeOften(x, 6, 3);
        Check.same("five of them saved", x.count(9), 5);
        Check.strikeOften(x, 7, 2);
        Check.same("six, one dropped", x.count(9), 6);
        int[] due = {9, 8, 7, 6, 5, 4};
        for (int strokes : due) {
            x.undo();
            Check.same("back, the latest first", x.count(0), strokes);
        }
        Check.same("no more", x.count(9), 0);
    }

    // ---- exceptions

    private static void throwingChangesNothing() {
        for (Supplier<StenoChords> make : Make.all()) {
            String untouched = Trace.of(make.get());
            for (Calls.Call call : Calls.all()) {
                StenoChords x = make.get();
                boolean thrown = false;
                try {
                    call.made().accept(x);
                } catch (RuntimeException e) {
                    thrown = true;
                    Class<?> kind = e.getClass();
                    Check.holds(call.told() + " throws what the document names", kind == IllegalArgumentException.class
                            || kind == IllegalStateException.class || kind == IndexOutOfBoundsException.class);
                }
                if (thrown) {
                    Check.sameText(call.told() + " throws and changes nothing", Trace.of(x), untouched);
                }
            }
        }
    }

    private static void firstNamedIsThrown() {
        for (int stroke : List.of(1024, -1, Integer.MAX_VALUE)) {
            Trace.refusesArgument("strike on a full paper", Make::fullPaper, x -> x.strike(stroke));
            Trace.refusesArgument("strike on an empty paper", Make::fresh, x -> x.strike(stroke));
        }
        Trace.refusesIndex("pick of no item", Make::rich, x -> x.pick(4, 0));
        Trace.refusesIndex("pick of no entry for a raw item", Make::rich, x -> x.pick(3, 5));
        Trace.refusesArgument("define of no word, full", () -> fullWithText("d"), x -> x.define(100));
        Trace.refusesArgument("define of no row, full", Make::full, x -> x.define(0));
        Trace.refusesArgument("define of an asterisk, full", () -> fullWithText("*"), x -> x.define(0));
        Trace.refusesArgument("define of five strokes, full", () -> fullWithText("s/s/s/s/s"), x -> x.define(0));
        Trace.refusesState("define of a row and word, full", () -> fullWithText("s"), x -> x.define(50));
        Trace.refusesIndex("set of no setting to no value", Make::rich, x -> x.set(2, 9));
        Trace.refusesIndex("set of no setting, -1", Make::rich, x -> x.set(-1, -1));
        Trace.refusesArgument("append of no code, full", Make::fullBuffer, x -> x.append(127));
        Trace.refusesArgument("append of no code below, full", Make::fullBuffer, x -> x.append(32));
        Trace.refusesIndex("no number of no item", Make::rich, x -> x.item(4, 5));
        Trace.refusesIndex("no number of no item, -1", Make::rich, x -> x.item(-1, -1));
        Trace.refusesIndex("no number of no entry", Make::rich, x -> x.entry(5, 10));
        Trace.refusesIndex("no number of no entry, -1", Make::rich, x -> x.entry(-1, -1));
    }

    private static StenoChords fullWithText(String text) {
        StenoChords x = Make.fullEntries();
        Check.type(x, text);
        return x;
    }

    private static void nothingToReturn() {
        Check.same("NONE", StenoChords.NONE, -1);
        StenoChords x = Check.withEntries("s");
        x.strike(2);
        Check.same("no word", x.item(0, 0), -1);
        Check.same("no entry", x.item(0, 3), -1);
        Check.same("no second stroke", x.entry(0, 3), -1);
        Check.same("no word if struck", x.ifStruck(2, 0), -1);
        Check.same("no strokes for a word", x.shortest(9), -1);
    }
}
