import java.util.ArrayList;
import java.util.List;
import java.util.function.Consumer;

/** Every call of the face, with the numbers on both sides of each of its limits. */
final class Calls {
    enum Kind { UNDOABLE, TEXT, KEEP, UNDO, LOOK }

    record Call(String told, Kind kind, Consumer<StenoChords> made) {
    }

    private static final int[] ITEMS = {Integer.MIN_VALUE, -1, 0, 1, 3, 4, 59, 60, Integer.MAX_VALUE};
    private static final int[] ENTRIES = {Integer.MIN_VALUE, -1, 0, 1, 4, 5, 12, 23, 24, Integer.MAX_VALUE};
    private static final int[] STROKES = {Integer.MIN_VALUE, -1, 0, 1, 1023, 1024, Integer.MAX_VALUE};
    private static final int[] WORDS = {Integer.MIN_VALUE, -1, 0, 99, 100, Integer.MAX_VALUE};
    private static final int[] CODES = {Integer.MIN_VALUE, 32, 33, 's', '/', 126, 127, 65536 + 's', Integer.MAX_VALUE};

    private final List<Call> calls = new ArrayList<>();

    private Calls() {
    }

    static List<Call> all() {
        Calls all = new Calls();
        all.striking();
        all.entries();
        all.texts();
        all.looks();
        all.wouldBe();
        return all.calls;
    }

    private void add(String told, Kind kind, Consumer<StenoChords> made) {
        calls.add(new Call(told, kind, made));
    }

    private void striking() {
        for (int stroke : STROKES) {
            add("strike " + stroke, Kind.UNDOABLE, x -> x.strike(stroke));
        }
        add("play", Kind.UNDOABLE, x -> x.play());
        add("tear", Kind.UNDOABLE, x -> x.tear());
        for (int item : ITEMS) {
            for (int entry : ENTRIES) {
                add("pick " + item + " " + entry, Kind.UNDOABLE, x -> x.pick(item, entry));
            }
        }
    }

    private void entries() {
        for (int word : WORDS) {
            add("define " + word, Kind.UNDOABLE, x -> x.define(word));
        }
        for (int entry : ENTRIES) {
            add("remove " + entry, Kind.UNDOABLE, x -> x.remove(entry));
        }
        for (int setting = -1; setting <= 2; setting++) {
            for (int value = -1; value <= 5; value++) {
                int which = setting;
                int what = value;
                add("set " + which + " " + what, Kind.UNDOABLE, x -> x.set(which, what));
            }
        }
    }

    private void texts() {
        for (int code : CODES) {
            add("append " + code, Kind.TEXT, x -> x.append(code));
        }
        add("clearBuffer", Kind.TEXT, x -> x.clearBuffer());
        add("firstError", Kind.LOOK, x -> x.firstError());
        add("keep", Kind.KEEP, x -> x.keep());
        add("goBack", Kind.UNDOABLE, x -> x.goBack());
        add("undo", Kind.UNDO, x -> x.undo());
    }

    private void looks() {
        for (int item : ITEMS) {
            add("stroke " + item, Kind.LOOK, x -> x.stroke(item));
            for (int what = -1; what <= 5; what++) {
                int number = what;
                add("item " + item + " " + what, Kind.LOOK, x -> x.item(item, number));
            }
        }
        for (int what = -1; what <= 10; what++) {
            int number = what;
            add("count " + what, Kind.LOOK, x -> x.count(number));
            add("setting " + what, Kind.LOOK, x -> x.setting(number));
            for (int entry : ENTRIES) {
                add("entry " + entry + " " + what, Kind.LOOK, x -> x.entry(entry, number));
            }
        }
    }

    private void wouldBe() {
        for (int what = -1; what <= 4; what++) {
            int number = what;
            add("begun " + what, Kind.LOOK, x -> x.begun(number));
            for (int stroke : STROKES) {
                add("ifStruck " + stroke + " " + what, Kind.LOOK, x -> x.ifStruck(stroke, number));
            }
        }
        for (int word : WORDS) {
            add("shortest " + word, Kind.LOOK, x -> x.shortest(word));
        }
        for (int first : ENTRIES) {
            for (int second : ENTRIES) {
                add("behind " + first + " " + second, Kind.LOOK, x -> x.behind(first, second));
            }
        }
        add("clashes", Kind.LOOK, x -> x.clashes());
        add("least", Kind.LOOK, x -> x.least());
        add("readShare", Kind.LOOK, x -> x.readShare());
        add("meanKeys", Kind.LOOK, x -> x.meanKeys());
        add("digest", Kind.LOOK, x -> x.digest());
    }
}
