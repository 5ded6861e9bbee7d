/** The sentences of the promises 1 to 5, each with a test of its own. */
final class StrikingBounds {
    private StrikingBounds() {
    }

    static void run(Document document) {
        document.under("Promise 1: A new object");
        document.says("Creates an empty paper, without entries, with an empty buffer and no snapshot.",
                StrikingBounds::newObject);
        strike(document);
        play(document);
        tear(document);
        pick(document);
    }

    private static void strike(Document document) {
        document.under("Promise 2: strike");
        document.says("Strikes a stroke, or an asterisk.", StrikingBounds::strikes);
        document.says("Undoable.", StrikingBounds::strikeUndoable);
        document.says("- `stroke`: 0 to 1023, 0 for an asterisk", StrikingBounds::everyStroke);
        document.says("Returns how many items there are then.", StrikingBounds::itemsThen);
        document.says("Throws `IllegalArgumentException` if stroke is out of range", StrikingBounds::outOfRange);
        document.says("Throws `IllegalStateException` if it is a stroke and there are 60, or it is an asterisk and "
                + "there is none", StrikingBounds::noRoomOrNothing);
    }

    private static void play(Document document) {
        document.under("Promise 3: play");
        document.says("Strikes what the buffer tells, one stroke after the other, up to the first one for which "
                + "strike() would throw an exception, and clears the buffer.", StrikingBounds::playsUpTo);
        document.says("Undoable, as one call, also if none is struck.", StrikingBounds::playUndoable);
        document.says("Returns how many are struck, asterisks too.", StrikingBounds::howManyPlayed);
        document.says("Throws `IllegalArgumentException` if the buffer is not complete strokes as a text",
                StrikingBounds::notComplete);
    }

    private static void tear(Document document) {
        document.under("Promise 4: tear");
        document.says("Takes the paper away: there are no strokes then.", StrikingBounds::tears);
        document.says("Undoable.", StrikingBounds::tearUndoable);
        document.says("Returns how many there were.", StrikingBounds::howManyTorn);
    }

    private static void pick(Document document) {
        document.under("Promise 5: pick");
        document.says("Picks an entry for an item.", StrikingBounds::picks);
        document.says("Undoable.", StrikingBounds::pickUndoable);
        document.says("- `item`: its number, from 0", StrikingBounds::itemNumbers);
        document.says("- `entry`: the number of an entry with the row of the item", StrikingBounds::entriesWithTheRow);
        document.says("Returns how often it was picked then.", StrikingBounds::howOften);
        document.says("Throws `IndexOutOfBoundsException` if there is no such item or entry", StrikingBounds::noSuch);
        document.says("Throws `IllegalStateException` if the entry has another row", StrikingBounds::anotherRow);
    }

    // ---- a new object

    private static void newObject() {
        Make.full();
        StenoChords x = new StenoChords();
        Check.same("no strokes", x.count(0), 0);
        Check.same("no items", x.count(2), 0);
        Check.same("no entries", x.count(4), 0);
        for (int what = 5; what <= 9; what++) {
            Check.same("nothing so far: " + what, x.count(what), 0);
        }
        Check.same("an empty buffer", x.firstError(), 0);
        Check.same("an empty buffer: its length", x.clearBuffer(), 0);
        Check.refusesState(x, "no snapshot", x::goBack);
        Check.refusesState(x, "no saved state", x::undo);
        Check.refusesIndex(x, "no first stroke", () -> x.stroke(0));
        Check.refusesIndex(x, "no first item", () -> x.item(0, 0));
        Check.refusesIndex(x, "no first entry", () -> x.entry(0, 0));
        Make.full();
        Check.same("another object changes nothing of it", x.digest(), new StenoChords().digest());
    }

    // ---- strike

    private static void strikes() {
        StenoChords x = Make.fresh();
        x.strike(1023);
        Check.same("the stroke is on the paper", x.stroke(0), 1023);
        Check.same("a stroke struck", x.count(5), 1);
        Check.same("no asterisk", x.count(7), 0);
        x.strike(0);
        Check.same("the asterisk eats it", x.count(0), 0);
        Check.same("no stroke struck", x.count(5), 1);
        Check.same("an asterisk", x.count(7), 1);
    }

    private static void strikeUndoable() {
        Trace.undoable("strike", Make::rich, x -> x.strike(1));
        Trace.undoable("the first one", Make::fresh, x -> x.strike(1023));
        Trace.undoable("an asterisk", Make::rich, x -> x.strike(0));
        Trace.undoable("an asterisk on a full paper", StrikingBounds::fullOfOneCall, x -> x.strike(0));
        Trace.undoable("the 60th", () -> takeOne(fullOfOneCall()), x -> x.strike(9));
    }

    /** A full paper with three saved states alone. */
    private static StenoChords fullOfOneCall() {
        StenoChords x = new StenoChords();
        Check.play(x, "st/".repeat(19) + "st");
        Check.play(x, "k/".repeat(19) + "k");
        Check.play(x, "st/".repeat(19) + "st");
        return x;
    }

    private static StenoChords takeOne(StenoChords x) {
        x.strike(0);
        return x;
    }

    private static void everyStroke() {
        for (int stroke = 1; stroke <= 1023; stroke++) {
            StenoChords x = Make.raw(1);
            Check.same("strike " + stroke, x.strike(stroke), 2);
            Check.same("on the paper", x.stroke(1), stroke);
        }
        Check.same("strike 0", Make.raw(2).strike(0), 1);
    }

    private static void itemsThen() {
        StenoChords x = Check.withEntries("s/t", "s/t/k/p");
        int[] strokes = {1, 2, 4, 8, 0, 1};
        int[] due = {1, 1, 2, 1, 2, 3};
        for (int i = 0; i < strokes.length; i++) {
            Check.same("items behind the stroke " + i, x.strike(strokes[i]), due[i]);
        }
        StenoChords y = new StenoChords();
        Check.same("one item", y.strike(1), 1);
        Check.same("no item", y.strike(0), 0);
        Check.same("60 items", Make.raw(59).strike(1), 60);
        Check.same("59 items", Make.raw(60).strike(0), 59);
        Check.same("15 items of 60 strokes", sixtyOfOneRow().strike(2), 15);
    }

    /** 59 strokes that lack one to be 15 items of a row of four. */
    private static StenoChords sixtyOfOneRow() {
        StenoChords x = Check.withEntries("s/s/s/t");
        for (int place = 0; place < 59; place++) {
            x.strike(place % 4 == 3 ? 2 : 1);
        }
        return x;
    }

    private static void outOfRange() {
        for (int stroke : new int[] {-1, 1024, 2047, 65536, Integer.MIN_VALUE, Integer.MAX_VALUE}) {
            Trace.refusesArgument("strike " + stroke, Make::rich, x -> x.strike(stroke));
            Trace.refusesArgument("strike " + stroke + ", busy", Make::busy, x -> x.strike(stroke));
        }
        Check.same("the last one in the range", Make.rich().strike(1023), 5);
        Check.same("the first one in the range", Make.rich().strike(0), 3);
    }

    private static void noRoomOrNothing() {
        Trace.refusesState("the 61st", Make::fullPaper, x -> x.strike(1));
        Trace.refusesState("the 61st, of all keys", Make::full, x -> x.strike(1023));
        Check.same("the 60th", Make.raw(59).strike(1), 60);
        Check.same("an asterisk and there are 60", Make.raw(60).strike(0), 59);
        Trace.refusesState("an asterisk and there is none", Make::fresh, x -> x.strike(0));
        Trace.refusesState("an asterisk and all are eaten", () -> takeOne(Make.raw(1)), x -> x.strike(0));
        Trace.refusesState("an asterisk and all are torn", StrikingBounds::torn, x -> x.strike(0));
        Check.same("an asterisk and there is one", Make.raw(1).strike(0), 0);
    }

    private static StenoChords torn() {
        StenoChords x = Make.rich();
        x.tear();
        return x;
    }

    // ---- play

    private static void playsUpTo() {
        playIs("all of them", 0, "s/t/*/k", 4, 2);
        playIs("the first one would throw", 0, "*/s/t", 0, 0);
        playIs("an asterisk and there is none", 1, "*/*/s", 1, 0);
        playIs("up to the 60th", 57, "s/t/k", 3, 60);
        playIs("no room for the third", 58, "s/t/k/*/p", 2, 60);
        playIs("no room at all", 60, "s/*", 0, 60);
        playIs("an asterisk makes room", 60, "*/s/t", 2, 60);
        StenoChords x = typed(Make.raw(2), "s/*/*/*/*/t");
        Check.same("one after the other", x.play(), 4);
        Check.same("what was struck", x.count(5), 3);
        Check.same("what was eaten", x.count(6), 3);
    }

    private static StenoChords typed(StenoChords x, String text) {
        Check.type(x, text);
        return x;
    }

    private static void playIs(String what, int strokes, String text, int struck, int left) {
        StenoChords x = typed(Make.raw(strokes), text);
        Check.same(what + ": struck", x.play(), struck);
        Check.same(what + ": on the paper", x.count(0), left);
        Check.same(what + ": saved once", x.count(9), Math.min(strokes + 1, 6));
        Check.same(what + ": the buffer is cleared", x.clearBuffer(), 0);
    }

    private static void playUndoable() {
        Trace.undoable("play of one", StrikingBounds::richWithoutText, x -> Check.play(x, "d"));
        Trace.undoable("play of many", Make::fresh, x -> Check.play(x, "s/t/k/*/*/p"));
        Trace.undoable("play of none", Make::fresh, x -> Check.play(x, "*/s"));
        Trace.undoable("play of none on a full paper", StrikingBounds::fullOfOneCall, x -> Check.play(x, "s"));
        StenoChords x = typed(new StenoChords(), "s/t/k");
        x.play();
        x.undo();
        Check.same("the buffer is not restored", x.clearBuffer(), 0);
    }

    private static StenoChords richWithoutText() {
        return Trace.withoutText(Make.rich());
    }

    private static void howManyPlayed() {
        Check.same("one stroke", Check.play(Make.fresh(), "stkpaoerld"), 1);
        Check.same("one asterisk", Check.play(Make.raw(1), "*"), 1);
        Check.same("asterisks too", Check.play(Make.fresh(), "s/*/s/*/s"), 5);
        Check.same("none", Check.play(Make.fresh(), "*"), 0);
        Check.same("30, the most a buffer tells", Check.play(Make.fresh(), "s/".repeat(29) + "s"), 30);
        Check.same("30 asterisks", Check.play(Make.raw(30), "*/".repeat(29) + "*"), 30);
    }

    private static void notComplete() {
        for (String text : new String[] {"", "s/", "/", "/s", "s//s", "ss", "ts", "*s", "s*", "x", "s/x", "S", fullButOne()}) {
            Trace.refusesArgument("play of " + text, () -> typed(Make.raw(5), text), x -> x.play());
        }
        Trace.refusesArgument("play of a full buffer", Make::full, x -> x.play());
        Check.same("complete to the last character", Check.play(Make.fresh(), fullButOne() + "k"), 21);
    }

    /** 59 characters of strokes, the last one of which is to come. */
    private static String fullButOne() {
        return "st/".repeat(19) + "s/";
    }

    // ---- tear

    private static void tears() {
        StenoChords x = Make.full();
        int[] stay = {x.count(4), x.count(5), x.count(6), x.count(7), x.count(8)};
        x.tear();
        Check.same("no strokes", x.count(0), 0);
        Check.same("no items", x.count(1) + x.count(2) + x.count(3), 0);
        for (int what = 4; what <= 8; what++) {
            Check.same("the others stay: " + what, x.count(what), stay[what - 4]);
        }
        Check.refusesIndex(x, "no first stroke", () -> x.stroke(0));
        Check.refusesIndex(x, "no first item", () -> x.item(0, 0));
        Check.same("room again", x.strike(1), 1);
        Check.same("the buffer stays", x.clearBuffer(), 60);
    }

    private static void tearUndoable() {
        Trace.undoable("tear", Make::rich, x -> x.tear());
        Trace.undoable("tear of a full paper", StrikingBounds::fullOfOneCall, x -> x.tear());
        Trace.undoable("tear of nothing", Make::fresh, x -> x.tear());
    }

    private static void howManyTorn() {
        for (int strokes : new int[] {0, 1, 2, 59, 60}) {
            Check.same("torn", Make.raw(strokes).tear(), strokes);
        }
        StenoChords x = Make.fullPaper();
        x.tear();
        Check.same("torn twice", x.tear(), 0);
        Check.same("strokes, not items", sixtyOfOneRow().tear(), 59);
    }

    // ---- pick

    private static void picks() {
        StenoChords x = Make.rich();
        x.pick(0, 0);
        Check.same("picked", x.entry(0, 6), 1);
        Check.same("its rival as before", x.entry(1, 6), 1);
        Check.same("the first of them leads", x.item(0, 3), 0);
        x.pick(2, 3);
        Check.same("a row of four", x.entry(3, 6), 1);
        Check.same("nothing is struck", x.count(0), 8);
    }

    private static void pickUndoable() {
        Trace.undoable("pick", Make::rich, x -> x.pick(0, 0));
        Trace.undoable("pick of the leading one", Make::rich, x -> x.pick(0, 1));
        Trace.undoable("pick of a row of four", Make::rich, x -> x.pick(2, 3));
    }

    private static void itemNumbers() {
        StenoChords x = Make.rich();
        Check.same("the item 0", x.pick(0, 0), 1);
        Check.same("the item 1", x.pick(1, 2), 1);
        Check.same("the item 2", x.pick(2, 3), 1);
        StenoChords y = Check.withEntries("s");
        Check.strikeOften(y, 1, 60);
        Check.same("the item 59", y.pick(59, 0), 1);
    }

    private static void entriesWithTheRow() {
        StenoChords x = Make.fullEntries();
        Check.play(x, "stkpaoerld/s");
        Check.same("the last entry of 24", x.pick(0, 23), 1);
        Check.same("its rival", x.pick(0, 11), 1);
        Check.same("the first entry", x.pick(1, 0), 1);
        Check.same("its rival", x.pick(1, 12), 1);
        x.set(1, 1);
        Check.same("read by setting 1", x.pick(1, 12), 2);
    }

    private static void howOften() {
        StenoChords x = Make.rich();
        for (int times = 1; times <= 40; times++) {
            Check.same("picked", x.pick(0, 0), times);
        }
        Check.same("the other one", x.pick(0, 1), 2);
        x.undo();
        x.undo();
        Check.same("picked again behind undo", x.pick(0, 0), 40);
    }

    private static void noSuch() {
        for (int item : new int[] {-1, 4, 8, 60, Integer.MIN_VALUE, Integer.MAX_VALUE}) {
            Trace.refusesIndex("pick for the item " + item, Make::rich, x -> x.pick(item, 0));
        }
        for (int entry : new int[] {-1, 5, 24, Integer.MIN_VALUE, Integer.MAX_VALUE}) {
            Trace.refusesIndex("pick of the entry " + entry, Make::rich, x -> x.pick(0, entry));
        }
        Trace.refusesIndex("pick without items", StrikingBounds::torn, x -> x.pick(0, 0));
        Trace.refusesIndex("pick without entries", () -> Make.raw(1), x -> x.pick(0, 0));
        Trace.refusesIndex("pick of the 25th entry", Make::full, x -> x.pick(0, 24));
        Trace.refusesIndex("pick for the 61st item", () -> Make.raw(60), x -> x.pick(60, 0));
    }

    private static void anotherRow() {
        Trace.refusesState("a longer row", Make::rich, x -> x.pick(0, 2));
        Trace.refusesState("a shorter row", Make::rich, x -> x.pick(1, 0));
        Trace.refusesState("a shorter row for a long item", Make::rich, x -> x.pick(2, 4));
        Trace.refusesState("a raw item", Make::rich, x -> x.pick(3, 4));
        Trace.refusesState("a row that is passed over", StrikingBounds::passedOver, x -> x.pick(1, 2));
    }

    private static StenoChords passedOver() {
        StenoChords x = Make.rich();
        x.set(1, 1);
        return x;
    }
}
