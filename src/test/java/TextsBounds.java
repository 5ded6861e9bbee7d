/** The sentences of the promises 9 to 14, each with a test of its own. */
final class TextsBounds {
    private TextsBounds() {
    }

    static void run(Document document) {
        texts(document);
        snapshot(document);
        undo(document);
    }

    private static void texts(Document document) {
        document.under("Promise 9: append");
        document.says("Appends a character to the buffer.", TextsBounds::appends);
        document.says("- `code`: the character code, 33 to 126", TextsBounds::everyCode);
        document.says("Returns the new length of the buffer.", TextsBounds::newLength);
        document.says("Throws `IllegalArgumentException` if code is not 33 to 126", TextsBounds::noSuchCode);
        document.says("Throws `IllegalStateException` if the buffer has 60 characters", TextsBounds::fullBuffer);
        document.under("Promise 10: clearBuffer");
        document.says("Clears the buffer.", TextsBounds::clears);
        document.says("Returns the length that it had.", TextsBounds::lengthThatItHad);
        document.under("Promise 11: firstError");
        document.says("Finds the first syntax error of the buffer.", TextsBounds::firstOfSeveral);
        document.says("Returns the index of the first character that is a syntax error;", TextsBounds::everyIndex);
        document.says("the length of the buffer if there is none.", TextsBounds::noError);
    }

    private static void snapshot(Document document) {
        document.under("Promise 12: keep");
        document.says("Takes a snapshot of the state (of all that undo() would restore), in place of the one that was.",
                TextsBounds::takesASnapshot);
        document.says("Returns how many strokes are on the paper.", TextsBounds::strokesKept);
        document.under("Promise 13: goBack");
        document.says("Goes back to the snapshot, which stays.", TextsBounds::goesBack);
        document.says("Undoable.", TextsBounds::goBackUndoable);
        document.says("Returns how many strokes are on the paper then.", TextsBounds::strokesThen);
        document.says("Throws `IllegalStateException` if there is no snapshot", TextsBounds::noSnapshot);
    }

    private static void undo(Document document) {
        document.under("Promise 14: undo");
        document.says("Restores the latest saved state, and drops it.", TextsBounds::restores);
        document.says("Returns how many saved states are left.", TextsBounds::howManyLeft);
        document.says("Throws `IllegalStateException` if there is none", TextsBounds::noneSaved);
    }

    private static StenoChords typed(String text) {
        StenoChords x = new StenoChords();
        Check.type(x, text);
        return x;
    }

    // ---- append

    private static void appends() {
        StenoChords x = Make.rich();
        long before = x.digest();
        int saved = x.count(9);
        x.append('k');
        Check.same("not undoable", x.count(9), saved);
        Check.same("the digest of one more", x.digest() == before ? 1 : 0, 0);
        Check.same("behind the others", x.play(), 2);
        Check.same("the last stroke", x.stroke(9), 4);
        Check.same("the one ahead of it", x.stroke(8), 3);
    }

    private static void everyCode() {
        long empty = new StenoChords().digest();
        for (int code = 33; code <= 126; code++) {
            StenoChords x = new StenoChords();
            Check.same("append " + code, x.append(code), 1);
            Check.same("the code is held as it is", x.digest(), 31 * (empty + 1) + code);
        }
    }

    private static void newLength() {
        StenoChords x = new StenoChords();
        for (int length = 1; length <= 60; length++) {
            Check.same("the new length", x.append(33 + length), length);
        }
        x.clearBuffer();
        Check.same("the first one again", x.append(33), 1);
    }

    private static void noSuchCode() {
        for (int code : new int[] {32, 127, 0, -1, 9, 10, 128, 255, 256 + 's', 65536 + 's', Integer.MIN_VALUE, Integer.MAX_VALUE}) {
            Trace.refusesArgument("append " + code, Make::rich, x -> x.append(code));
        }
    }

    private static void fullBuffer() {
        for (int code : new int[] {33, 's', '/', 126}) {
            Trace.refusesState("append " + code, Make::fullBuffer, x -> x.append(code));
        }
        Check.same("the 60th", typed("s/".repeat(29) + "s").append('/'), 60);
    }

    // ---- clearBuffer

    private static void clears() {
        StenoChords x = Make.full();
        String without = Trace.of(Trace.withoutText(x));
        StenoChords y = Make.full();
        y.clearBuffer();
        Check.same("cleared", y.firstError(), 0);
        Check.refusesArgument(y, "nothing to play", y::play);
        Check.same("room for 60", y.append('s'), 1);
        y.clearBuffer();
        Check.sameText("nothing else is changed, nothing saved", Trace.of(y), without);
    }

    private static void lengthThatItHad() {
        for (int length : new int[] {0, 1, 2, 59, 60}) {
            StenoChords x = typed("~".repeat(length));
            Check.same("the length", x.clearBuffer(), length);
            Check.same("then none", x.clearBuffer(), 0);
        }
    }

    // ---- firstError

    private static void firstOfSeveral() {
        Check.same("the first of several", typed("s/ts/~/ss").firstError(), 3);
        Check.same("the very first", typed("~ss").firstError(), 0);
        Check.same("errors behind it say nothing", typed("st/s*/ss").firstError(), 4);
        StenoChords x = typed("stt");
        Check.same("found", x.firstError(), 2);
        Check.same("found again", x.firstError(), 2);
        Trace.looks("firstError", Make::full, y -> y.firstError());
    }

    private static void everyIndex() {
        for (int index = 0; index < 60; index++) {
            String text = "s/".repeat(30).substring(0, index) + "~";
            Check.same("the index", typed(text).firstError(), index);
            Check.same("the index, all filled", typed((text + "~".repeat(60)).substring(0, 60)).firstError(), index);
        }
    }

    private static void noError() {
        for (int length = 0; length <= 60; length++) {
            Check.same("no error in " + length, typed("s/".repeat(30).substring(0, length)).firstError(), length);
            Check.same("none with asterisks", typed("*/".repeat(30).substring(0, length)).firstError(), length);
        }
    }

    // ---- keep

    private static void takesASnapshot() {
        StenoChords x = Make.rich();
        x.keep();
        x.strike(7);
        x.strike(0);
        x.tear();
        x.remove(3);
        x.remove(0);
        x.set(0, 0);
        x.set(1, 2);
        Check.define(Trace.withoutText(x), "ld", 66);
        x.goBack();
        StenoChords y = Trace.withoutText(Make.rich());
        for (int what = 0; what <= 8; what++) {
            Check.same("restored: count " + what, x.count(what), y.count(what));
        }
        Check.same("restored: setting 0", x.setting(0), y.setting(0));
        Check.same("restored: setting 1", x.setting(1), y.setting(1));
        for (int entry = 0; entry < 5; entry++) {
            for (int what = 0; what <= 9; what++) {
                Check.same("restored: entries", x.entry(entry, what), y.entry(entry, what));
            }
        }
        for (int place = 0; place < 8; place++) {
            Check.same("restored: strokes", x.stroke(place), y.stroke(place));
        }
        inPlaceOfTheOther();
    }

    private static void inPlaceOfTheOther() {
        StenoChords x = Make.raw(3);
        x.keep();
        Check.same("keep is not undoable", x.count(9), 3);
        x.strike(1);
        x.keep();
        x.tear();
        Check.same("the later one", x.goBack(), 4);
        x.tear();
        x.keep();
        x.strike(1);
        Check.same("the latest one, of an empty paper", x.goBack(), 0);
        Check.type(x, "s/t");
        x.keep();
        Check.same("keep leaves the buffer", x.play(), 2);
    }

    private static void strokesKept() {
        for (int strokes : new int[] {0, 1, 59, 60}) {
            Check.same("strokes on the paper", Make.raw(strokes).keep(), strokes);
        }
        Check.same("strokes, not items", Make.rich().keep(), 8);
    }

    // ---- goBack

    private static void goesBack() {
        StenoChords x = Make.busy();
        StenoChords y = Make.rich();
        Check.type(x, "*");
        x.goBack();
        x.clearBuffer();
        y.clearBuffer();
        for (int times = 1; times <= 3; times++) {
            for (int what = 0; what <= 8; what++) {
                Check.same("back: count " + what, x.count(what), y.count(what));
            }
            Check.same("back: picked", x.entry(1, 6), 1);
            x.pick(0, 1);
            x.strike(99);
            x.set(1, 1);
            Check.same("the snapshot stays", x.goBack(), 8);
        }
        Check.same("the saved states are not restored", x.count(9), 6);
        StenoChords z = Make.full();
        z.goBack();
        Check.same("the buffer is left", z.clearBuffer(), 60);
    }

    private static void goBackUndoable() {
        Trace.undoable("goBack", TextsBounds::changed, x -> x.goBack());
        Trace.undoable("goBack to what is", Make::rich, x -> x.goBack());
        StenoChords x = changed();
        x.goBack();
        x.undo();
        Check.same("the snapshot stays behind undo", x.goBack(), 8);
    }

    private static StenoChords changed() {
        StenoChords x = Make.rich();
        x.remove(0);
        x.tear();
        x.strike(33);
        return x;
    }

    private static void strokesThen() {
        for (int strokes : new int[] {0, 1, 59, 60}) {
            StenoChords x = Make.raw(strokes);
            x.keep();
            x.tear();
            x.strike(3);
            Check.same("strokes then", x.goBack(), strokes);
            Check.same("counted", x.count(0), strokes);
        }
    }

    private static void noSnapshot() {
        Trace.refusesState("goBack of a new object", Make::fresh, x -> x.goBack());
        Trace.refusesState("goBack with saved states alone", Make::fullPaper, x -> x.goBack());
        StenoChords x = new StenoChords();
        x.keep();
        Check.same("of an empty snapshot", x.goBack(), 0);
        x.undo();
        Check.same("undo does not drop it", x.goBack(), 0);
    }

    // ---- undo

    private static void restores() {
        StenoChords x = Check.withEntries("s", "s");
        x.strike(1);
        x.pick(0, 1);
        x.strike(1023);
        x.strike(0);
        Check.type(x, "k");
        x.undo();
        Check.same("the asterisk undone", x.count(0) * 100 + x.count(6) * 10 + x.count(7), 200);
        x.undo();
        Check.same("the stroke undone", x.count(5) * 100 + x.count(8), 101);
        x.undo();
        Check.same("the pick undone", x.item(0, 3), 0);
        x.undo();
        Check.same("the first stroke undone", x.count(0), 0);
        x.undo();
        Check.same("the second entry undone", x.count(4), 1);
        x.undo();
        Check.same("the first entry undone", x.count(4), 0);
        Check.refusesState(x, "each is dropped", x::undo);
        Check.same("the buffer is left", x.clearBuffer(), 1);
    }

    private static void howManyLeft() {
        StenoChords x = Make.busy();
        for (int left = 5; left >= 0; left--) {
            Check.same("left", x.undo(), left);
            Check.same("counted", x.count(9), left);
        }
        StenoChords y = Make.raw(1);
        Check.same("none left", y.undo(), 0);
    }

    private static void noneSaved() {
        Trace.refusesState("undo of a new object", Make::fresh, x -> x.undo());
        Trace.refusesState("undo with a text alone", Make::fullBuffer, x -> x.undo());
        Trace.refusesState("undo of all and once more", TextsBounds::allUndone, x -> x.undo());
        Trace.refusesState("undo with a snapshot alone", TextsBounds::keptAlone, x -> x.undo());
    }

    private static StenoChords allUndone() {
        StenoChords x = Make.busy();
        for (int state = 0; state < 6; state++) {
            x.undo();
        }
        return x;
    }

    private static StenoChords keptAlone() {
        StenoChords x = new StenoChords();
        x.keep();
        return x;
    }
}
