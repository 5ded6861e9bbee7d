/** Promises 1 to 5: a new object, strike, play, tear, pick. */
public final class StrikingTest {
    public static void main(String[] args) {
        newObject();
        strike();
        strikeRefuses();
        greedyReading();
        asterisks();
        play();
        playStops();
        playRefuses();
        tear();
        pick();
        pickRefuses();
        Check.finish();
    }

    private static void newObject() {
        StenoChords x = new StenoChords();
        for (int what = 0; what < 10; what++) {
            Check.same("new: count(" + what + ")", x.count(what), 0);
        }
        Check.same("new: setting(0)", x.setting(0), 0);
        Check.same("new: setting(1)", x.setting(1), 4);
        Check.same("new: clearBuffer", x.clearBuffer(), 0);
        Check.refusesState(x, "new: goBack", x::goBack);
        Check.refusesState(x, "new: undo", x::undo);
    }

    private static void strike() {
        StenoChords x = Check.withEntries("s", "s/t");
        Check.same("strike s", x.strike(1), 1);
        Check.same("strike t makes one item", x.strike(2), 1);
        Check.same("strike t is raw", x.strike(2), 2);
        Check.same("strike all keys", x.strike(1023), 3);
        Check.same("strike: strokes struck", x.count(5), 4);
        Check.same("strike: keys struck", x.count(8), 13);
        Check.same("strike is undoable", x.undo(), 5);
        Check.same("strike undone", x.count(0), 3);
        Check.same("strike undone: strokes struck", x.count(5), 3);
    }

    private static void strikeRefuses() {
        StenoChords x = new StenoChords();
        Check.refusesArgument(x, "strike(-1)", () -> x.strike(-1));
        Check.refusesArgument(x, "strike(1024)", () -> x.strike(1024));
        Check.refusesArgument(x, "strike(max)", () -> x.strike(Integer.MAX_VALUE));
        Check.refusesState(x, "strike(0) on an empty paper", () -> x.strike(0));
        Check.strikeOften(x, 5, 59);
        Check.same("the 60th stroke", x.strike(6), 60);
        Check.refusesState(x, "the 61st stroke", () -> x.strike(7));
        Check.refusesArgument(x, "range is named first", () -> x.strike(1024));
        Check.same("an asterisk on a full paper", x.strike(0), 59);
        Check.same("room again", x.strike(1), 60);
    }

    private static void greedyReading() {
        StenoChords x = Check.withEntries("s", "s/t", "t/k", "k/p/a/o", "a/o");
        Check.play(x, "s/t/k/p/a/o/k/p/a/s");
        Check.sameText("the longest first, from the left", Check.items(x), "240001");
        Check.play(x, "a/o");
        Check.sameText("read on behind raw ones", Check.items(x), "2400012");
        x.set(1, 1);
        Check.sameText("longer rows are passed over", Check.items(x), "100000000100");
        x.set(1, 3);
        Check.sameText("rows up to three", Check.items(x), "20020001" + "2");
    }

    private static void asterisks() {
        StenoChords x = Check.withEntries("s/t/k", "s");
        Check.play(x, "p/s/t/k");
        Check.same("an asterisk eats a stroke", x.strike(0), 3);
        Check.sameText("what is left is read anew", Check.items(x), "010");
        Check.same("eaten", x.count(6), 1);
        x.strike(4);
        x.set(0, 1);
        Check.same("an asterisk eats an item", x.strike(0), 1);
        Check.same("strokes left", x.count(0), 1);
        Check.same("eaten then", x.count(6), 4);
        Check.same("asterisks", x.count(7), 2);
        Check.same("a raw item is one stroke", x.strike(0), 0);
        Check.same("eaten at last", x.count(6), 5);
        Check.same("struck stays", x.count(5), 5);
        Check.refusesState(x, "nothing to eat", () -> x.strike(0));
    }

    private static void play() {
        StenoChords x = Check.withEntries("s/t");
        Check.same("play", Check.play(x, "s/t/*/tk"), 4);
        Check.same("play: strokes", x.count(0), 2);
        Check.same("play: the last stroke", x.stroke(1), 6);
        Check.same("play: struck", x.count(5), 3);
        Check.same("play: eaten", x.count(6), 1);
        Check.same("play: asterisks", x.count(7), 1);
        Check.same("play: keys", x.count(8), 4);
        Check.same("play clears the buffer", x.clearBuffer(), 0);
        Check.same("play is one undoable call", x.count(9), 2);
        Check.same("play undone", x.undo(), 1);
        Check.same("play undone: strokes", x.count(0), 0);
        Check.same("play undone: the buffer stays", x.clearBuffer(), 0);
        x.set(0, 1);
        Check.same("play eats items", Check.play(x, "k/s/t/*"), 4);
        Check.same("play eats items: left", x.count(0), 1);
    }

    private static void playStops() {
        StenoChords x = new StenoChords();
        Check.same("play stops at once", Check.play(x, "*/s"), 0);
        Check.same("play with none struck saves", x.count(9), 1);
        Check.same("play with none struck clears", x.clearBuffer(), 0);
        Check.same("play stops at an asterisk", Check.play(x, "s/*/*/t"), 2);
        Check.same("play stopped: paper", x.count(0), 0);
        Check.strikeOften(x, 3, 58);
        Check.same("play stops when full", Check.play(x, "s/t/k/*/p"), 2);
        Check.same("play stopped: full", x.count(0), 60);
        Check.same("play of thirty", Check.play(new StenoChords(), "s/".repeat(29) + "ld"), 30);
    }

    private static void playRefuses() {
        StenoChords x = new StenoChords();
        Check.refusesArgument(x, "play of nothing", x::play);
        for (String text : new String[] {"s/", "/", "ts", "ss", "s*", "**", "*s", "S", "s//t", "x"}) {
            Check.type(x, text);
            Check.refusesArgument(x, "play of " + text, x::play);
            Check.same("the buffer stays", x.clearBuffer(), text.length());
        }
    }

    private static void tear() {
        StenoChords x = Check.withEntries("s");
        Check.play(x, "s/t/k");
        Check.same("tear", x.tear(), 3);
        Check.same("torn: strokes", x.count(0), 0);
        Check.same("torn: items", x.count(2), 0);
        Check.same("torn: struck stays", x.count(5), 3);
        Check.same("torn: not eaten", x.count(6), 0);
        Check.same("torn: entries stay", x.count(4), 1);
        Check.same("tear of nothing", x.tear(), 0);
        Check.same("tear of nothing is saved", x.count(9), 4);
        x.undo();
        x.undo();
        Check.same("tear undone", x.count(0), 3);
    }

    private static void pick() {
        StenoChords x = Check.withEntries("s", "s", "s", "s/t");
        Check.play(x, "s/k/s/t");
        Check.same("the first leads at first", x.item(0, 3), 0);
        Check.same("pick", x.pick(0, 2), 1);
        Check.same("picked leads", x.item(0, 3), 2);
        Check.same("pick another", x.pick(0, 1), 1);
        Check.same("of several the first", x.item(0, 3), 1);
        Check.same("pick again", x.pick(0, 2), 2);
        Check.same("most often leads", x.item(0, 0), 2);
        Check.same("pick of a longer row", x.pick(2, 3), 1);
        Check.same("pick is undoable", x.undo(), 5);
        Check.same("pick undone", x.entry(3, 6), 0);
        x.undo();
        Check.same("pick undone: the leader", x.item(0, 3), 1);
    }

    private static void pickRefuses() {
        StenoChords x = Check.withEntries("s", "s/t");
        Check.play(x, "s/t/k");
        Check.refusesIndex(x, "pick(-1, 0)", () -> x.pick(-1, 0));
        Check.refusesIndex(x, "pick(2, 0)", () -> x.pick(2, 0));
        Check.refusesIndex(x, "pick(0, -1)", () -> x.pick(0, -1));
        Check.refusesIndex(x, "pick(0, 2)", () -> x.pick(0, 2));
        Check.refusesIndex(x, "pick(2, 2)", () -> x.pick(2, 2));
        Check.refusesState(x, "pick of a shorter row", () -> x.pick(0, 0));
        Check.refusesState(x, "pick for a raw item", () -> x.pick(1, 1));
    }
}
