/** Promises 9 to 14: append, clearBuffer, firstError, keep, goBack, undo. */
public final class TextsTest {
    public static void main(String[] args) {
        append();
        clearBuffer();
        firstError();
        keep();
        goBack();
        undo();
        Check.finish();
    }

    private static void append() {
        StenoChords x = new StenoChords();
        Check.refusesArgument(x, "append(32)", () -> x.append(32));
        Check.refusesArgument(x, "append(127)", () -> x.append(127));
        Check.refusesArgument(x, "append(65536 + 's')", () -> x.append(65536 + 's'));
        Check.same("append(33)", x.append(33), 1);
        Check.same("append(126)", x.append(126), 2);
        for (int length = 3; length <= 60; length++) {
            Check.same("append", x.append('s'), length);
        }
        Check.refusesState(x, "the 61st character", () -> x.append('s'));
        Check.refusesArgument(x, "the code is looked at first", () -> x.append(32));
        Check.same("append is not undoable", x.count(9), 0);
    }

    private static void clearBuffer() {
        StenoChords x = new StenoChords();
        Check.type(x, "s/t");
        Check.same("clearBuffer", x.clearBuffer(), 3);
        Check.same("clearBuffer of nothing", x.clearBuffer(), 0);
        Check.same("clearBuffer is not undoable", x.count(9), 0);
        Check.refusesArgument(x, "nothing to play", x::play);
    }

    private static void firstError() {
        String[] texts = {"", "s", "s/", "*", "*/", "stkpaoerld", "stkpaoerld/*/d/s", "s/t/k/p/a/",
            "/s", "s//", "ss", "sts", "ds", "d*", "*s", "**", "*/*/*s", "S", "s/x", "s!", "~"};
        int[] errors = {0, 1, 2, 1, 2, 10, 16, 10, 0, 2, 1, 2, 1, 1, 1, 1, 5, 0, 2, 1, 0};
        for (int i = 0; i < texts.length; i++) {
            StenoChords x = new StenoChords();
            Check.type(x, texts[i]);
            Check.same("firstError of " + texts[i], x.firstError(), errors[i]);
        }
        StenoChords x = new StenoChords();
        Check.type(x, "d/".repeat(30));
        Check.same("a full buffer without an error", x.firstError(), 60);
        everyPairOfKeys();
    }

    private static void everyPairOfKeys() {
        String letters = "stkpaoerld";
        for (int first = 0; first < 10; first++) {
            for (int second = 0; second < 10; second++) {
                StenoChords x = new StenoChords();
                x.append(letters.charAt(first));
                x.append(letters.charAt(second));
                Check.same("two keys", x.firstError(), second > first ? 2 : 1);
                if (second > first) {
                    x.play();
                    Check.same("their mask", x.stroke(0), (1 << first) | (1 << second));
                }
            }
        }
    }

    private static void keep() {
        StenoChords x = Check.withEntries("s");
        x.strike(1);
        long before = x.digest();
        Check.same("keep", x.keep(), 1);
        Check.same("keep is not undoable", x.count(9), 2);
        Check.holds("the digest tells of a snapshot", x.digest() != before);
        x.strike(2);
        Check.same("keep in place of the other", x.keep(), 2);
        x.tear();
        Check.same("goBack to the later one", x.goBack(), 2);
    }

    private static void goBack() {
        StenoChords x = Check.withEntries("s", "s");
        Check.refusesState(x, "goBack without a snapshot", x::goBack);
        Check.play(x, "s/t");
        x.pick(0, 1);
        x.keep();
        x.set(0, 1);
        x.set(1, 2);
        x.strike(0);
        x.remove(1);
        Check.type(x, "st");
        Check.same("goBack", x.goBack(), 2);
        Check.same("goBack: settings", x.setting(0) * 10 + x.setting(1), 4);
        Check.same("goBack: picked", x.entry(1, 6), 1);
        Check.same("goBack: asterisks", x.count(7), 0);
        Check.same("goBack: eaten", x.count(6), 0);
        Check.same("goBack is saved", x.count(9), 6);
        Check.same("goBack leaves the buffer", x.clearBuffer(), 2);
        x.tear();
        Check.same("the snapshot stays", x.goBack(), 2);
        x.undo();
        x.undo();
        Check.same("undone twice", x.count(0), 2);
        x.undo();
        Check.same("undone to before goBack", x.count(4), 1);
        Check.same("undone to before goBack: asterisks", x.count(7), 1);
    }

    private static void undo() {
        StenoChords x = new StenoChords();
        Check.strikeOften(x, 1, 8);
        x.keep();
        Check.type(x, "s");
        Check.same("at most six are saved", x.count(9), 6);
        for (int left = 5; left >= 0; left--) {
            Check.same("undo", x.undo(), left);
            Check.same("undo: strokes", x.count(0), left + 2);
            Check.same("undo: struck", x.count(5), left + 2);
        }
        Check.refusesState(x, "undo of what was dropped", x::undo);
        Check.same("undo leaves the buffer", x.clearBuffer(), 1);
        Check.same("undo leaves the snapshot", x.goBack(), 8);
        Check.same("goBack undone", x.undo(), 0);
        Check.same("goBack undone: strokes", x.count(0), 2);
        x.strike(1);
        x.strike(1);
        x.undo();
        x.strike(3);
        Check.same("undo in between", x.undo(), 1);
        Check.same("undo in between: strokes", x.count(0), 3);
    }
}
