/** Promises 6 to 8: define, remove, set. */
public final class EntriesTest {
    public static void main(String[] args) {
        define();
        defineRefuses();
        defineRefusesMore();
        remove();
        set();
        Check.finish();
    }

    private static void define() {
        StenoChords x = new StenoChords();
        Check.same("define", Check.define(x, "st/ka", 0), 0);
        Check.same("define clears the buffer", x.clearBuffer(), 0);
        Check.same("define of four strokes", Check.define(x, "s/t/k/stkpaoerld", 99), 1);
        Check.same("the same row, another word", Check.define(x, "st/ka", 1), 2);
        Check.same("the same word, another row", Check.define(x, "ka/st", 0), 3);
        Check.same("a row that begins the same", Check.define(x, "st", 0), 4);
        Check.same("define: entries", x.count(4), 5);
        Check.same("the last stroke", x.entry(1, 5), 1023);
        Check.same("never picked", x.entry(1, 6), 0);
        Check.same("define is undoable", x.undo(), 4);
        Check.same("define undone", x.count(4), 4);
        Check.same("the buffer is not restored", x.clearBuffer(), 0);
        x.strike(1);
        Check.same("raw at first", x.item(0, 0), StenoChords.NONE);
        Check.define(x, "s", 7);
        Check.same("what was struck is read by a new entry", x.item(0, 0), 7);
    }

    private static void defineRefuses() {
        StenoChords x = new StenoChords();
        Check.refusesArgument(x, "define of nothing", () -> x.define(0));
        for (String text : new String[] {"s/t/k/p/a", "*", "s/*", "s/", "/s", "ks", "s/t/k/p/"}) {
            Check.type(x, text);
            Check.refusesArgument(x, "define of " + text, () -> x.define(0));
            Check.same("the buffer stays", x.clearBuffer(), text.length());
        }
        Check.type(x, "s");
        Check.refusesArgument(x, "define(-1)", () -> x.define(-1));
        Check.refusesArgument(x, "define(100)", () -> x.define(100));
        Check.same("define(5)", x.define(5), 0);
        Check.type(x, "s");
        Check.refusesState(x, "the same row and word", () -> x.define(5));
        Check.refusesArgument(x, "the word is looked at first", () -> x.define(100));
        Check.same("the buffer stays", x.clearBuffer(), 1);
    }

    private static void defineRefusesMore() {
        StenoChords x = new StenoChords();
        for (int word = 0; word < 24; word++) {
            Check.same("define", Check.define(x, "s/t/k/p", word), word);
        }
        Check.type(x, "d");
        Check.refusesState(x, "the 25th entry", () -> x.define(0));
        Check.refusesArgument(x, "the 25th entry, no such word", () -> x.define(100));
        x.remove(0);
        Check.same("room again", x.define(0), 23);
        Check.refusesArgument(x, "24 entries and no text", () -> x.define(0));
    }

    private static void remove() {
        StenoChords x = Check.withEntries("s", "s", "s/t", "k");
        Check.play(x, "s/k");
        x.pick(0, 1);
        Check.same("remove", x.remove(0), 3);
        Check.same("those behind it move", x.entry(0, 0), 1);
        Check.same("so does how often picked", x.entry(0, 6), 1);
        Check.same("so do the rows", x.entry(1, 3), 2);
        Check.same("the item's entry", x.item(0, 3), 0);
        Check.same("remove another", x.remove(0), 2);
        Check.same("raw then", x.item(0, 3), StenoChords.NONE);
        Check.same("remove the last", x.remove(1), 1);
        Check.refusesIndex(x, "remove(-1)", () -> x.remove(-1));
        Check.refusesIndex(x, "remove(1)", () -> x.remove(1));
        x.undo();
        x.undo();
        Check.same("remove undone", x.count(4), 3);
        Check.same("remove undone: picked", x.entry(0, 6), 1);
    }

    private static void set() {
        StenoChords x = new StenoChords();
        Check.same("set(0, 1)", x.set(0, 1), 0);
        Check.same("set(0, 0)", x.set(0, 0), 1);
        Check.same("set(1, 1)", x.set(1, 1), 4);
        Check.same("set(1, 4)", x.set(1, 4), 1);
        Check.same("set to what it is", x.set(1, 4), 4);
        Check.same("is saved too", x.count(9), 5);
        Check.refusesIndex(x, "set(-1, 0)", () -> x.set(-1, 0));
        Check.refusesIndex(x, "set(2, 9)", () -> x.set(2, 9));
        Check.refusesArgument(x, "set(0, 2)", () -> x.set(0, 2));
        Check.refusesArgument(x, "set(0, -1)", () -> x.set(0, -1));
        Check.refusesArgument(x, "set(1, 0)", () -> x.set(1, 0));
        Check.refusesArgument(x, "set(1, 5)", () -> x.set(1, 5));
        x.undo();
        x.undo();
        Check.same("set undone", x.setting(1), 1);
        Check.same("the other setting stays", x.setting(0), 0);
    }
}
