/** Promises 20 to 28: ifStruck to digest. */
public final class WouldBeTest {
    private static final int NONE = StenoChords.NONE;

    public static void main(String[] args) {
        ifStruck();
        ifStruckWithoutRoom();
        begun();
        shortest();
        behind();
        clashes();
        least();
        readShare();
        meanKeys();
        digest();
        digestTellsApart();
        Check.finish();
    }

    private static void ifStruck() {
        StenoChords x = Check.withEntries("s", "s/t", "t/k/p");
        struckIs(x, 1, 0, 1, 1);
        struckIs(x, 2, NONE, 1, 1);
        x.strike(1);
        struckIs(x, 2, 1, 2, 1);
        struckIs(x, 1, 0, 1, 2);
        x.strike(2);
        struckIs(x, 1023, NONE, 1, 2);
        Check.play(x, "t/k");
        struckIs(x, 8, 2, 3, 2);
        x.set(1, 2);
        struckIs(x, 8, NONE, 1, 4);
        Check.same("nothing is struck", x.count(0), 4);
        Check.same("nothing is saved more", x.count(9), 6);
        Check.refusesArgument(x, "ifStruck(0, 0)", () -> x.ifStruck(0, 0));
        Check.refusesArgument(x, "ifStruck(1024, 0)", () -> x.ifStruck(1024, 0));
        Check.refusesArgument(x, "ifStruck(1, -1)", () -> x.ifStruck(1, -1));
        Check.refusesArgument(x, "ifStruck(1, 3)", () -> x.ifStruck(1, 3));
    }

    private static void ifStruckWithoutRoom() {
        StenoChords x = Check.withEntries("s/t");
        Check.strikeOften(x, 1, 60);
        struckIs(x, 2, 0, 2, 60);
        struckIs(x, 1, NONE, 1, 61);
        Check.same("still full", x.count(0), 60);
    }

    private static void struckIs(StenoChords x, int stroke, int... numbers) {
        for (int what = 0; what < numbers.length; what++) {
            Check.same("ifStruck(" + stroke + ", " + what + ")", x.ifStruck(stroke, what), numbers[what]);
        }
    }

    private static void begun() {
        StenoChords x = Check.withEntries("s/t", "s/t", "s", "s/t/k", "t/k/p/a", "s/t/k/p", "st/k");
        Check.same("begun of an empty paper", x.begun(1), 0);
        x.strike(1);
        begunIs(x, 4, 0, 0);
        x.strike(2);
        begunIs(x, 1, 2, 0);
        x.strike(4);
        begunIs(x, 0, 1, 1);
        x.set(1, 1);
        begunIs(x, 0, 1, 1);
        x.strike(8);
        begunIs(x, 0, 0, 1);
        Check.refusesArgument(x, "begun(0)", () -> x.begun(0));
        Check.refusesArgument(x, "begun(4)", () -> x.begun(4));
    }

    private static void begunIs(StenoChords x, int... numbers) {
        for (int strokes = 1; strokes <= numbers.length; strokes++) {
            Check.same("begun(" + strokes + ")", x.begun(strokes), numbers[strokes - 1]);
        }
    }

    private static void shortest() {
        StenoChords x = new StenoChords();
        Check.same("shortest of none", x.shortest(5), NONE);
        Check.define(x, "s/t/k", 5);
        Check.same("three strokes", x.shortest(5), 0);
        Check.define(x, "stk/pao", 5);
        Check.same("fewer strokes, though more keys", x.shortest(5), 1);
        Check.define(x, "st/ka", 5);
        Check.same("fewer keys", x.shortest(5), 2);
        Check.define(x, "sk/ta", 5);
        Check.same("of several the least number", x.shortest(5), 2);
        Check.define(x, "d", 6);
        Check.define(x, "d", 5);
        Check.same("not the leading one", x.shortest(5), 2);
        x.strike(512);
        x.pick(0, 5);
        Check.same("the leading one", x.shortest(5), 5);
        Check.same("no longer the leading one", x.shortest(6), NONE);
        x.remove(5);
        x.set(1, 2);
        Check.same("read by setting 1", x.shortest(5), 2);
        x.set(1, 1);
        Check.same("none is read by setting 1", x.shortest(5), NONE);
        Check.same("another word", x.shortest(6), 4);
        Check.refusesArgument(x, "shortest(-1)", () -> x.shortest(-1));
        Check.refusesArgument(x, "shortest(100)", () -> x.shortest(100));
        Check.same("shortest(99)", x.shortest(99), NONE);
    }

    private static void behind() {
        StenoChords x = Check.withEntries("s", "t", "s/t", "t/k", "s/t/k/p", "k/p", "p");
        Check.same("as they are", x.behind(1, 0), 0);
        Check.same("one item", x.behind(0, 1), 1);
        Check.same("one item of four strokes", x.behind(2, 5), 1);
        Check.same("parted otherwise, one raw", x.behind(0, 3), 2);
        Check.same("parted otherwise, two items", x.behind(1, 5), 2);
        Check.same("an entry and itself", x.behind(4, 4), 0);
        Check.same("the second one read otherwise", Check.withEntries("s", "t/k", "s/t/k/p", "s/t").behind(0, 1), 2);
        x.set(1, 3);
        Check.same("four strokes are not read", x.behind(2, 5), 0);
        Check.same("the second one is not read", x.behind(0, 4), 2);
        Check.same("the first one is not read", x.behind(4, 0), 2);
        Check.refusesIndex(x, "behind(-1, 0)", () -> x.behind(-1, 0));
        Check.refusesIndex(x, "behind(0, 7)", () -> x.behind(0, 7));
        Check.refusesIndex(x, "behind(7, 0)", () -> x.behind(7, 0));
    }

    private static void clashes() {
        StenoChords x = new StenoChords();
        Check.same("clashes of none", x.clashes(), 0);
        Check.define(x, "s", 0);
        Check.same("clashes of one", x.clashes(), 0);
        Check.define(x, "s/s", 1);
        Check.same("s s, s s/s, but not s/s s", x.clashes(), 2);
        Check.define(x, "s", 2);
        Check.same("rivals clash too", x.clashes(), 6);
        x.set(1, 1);
        Check.same("pairs with a row that is not read", x.clashes(), 5);
    }

    private static void least() {
        StenoChords x = Check.withEntries("s/t", "t/k/p/a", "s", "k/p");
        Check.same("least of none", x.least(), 0);
        Check.play(x, "s/t/k/p/a");
        Check.same("fewer than greedily", x.least(), 2);
        Check.same("greedily", x.count(2), 3);
        x.set(1, 3);
        Check.same("rows that are read", x.least(), 3);
        x.set(1, 1);
        Check.same("single strokes", x.least(), 5);
        Check.play(x, "d/".repeat(29) + "d");
        Check.same("raw strokes", x.least(), 35);
        Check.play(x, "d/".repeat(29) + "d");
        Check.same("a full paper", x.least(), 60);
    }

    private static void readShare() {
        StenoChords x = Check.withEntries("s/t");
        Check.sameDouble("readShare without strokes", x.readShare(), 1.0);
        x.strike(1);
        Check.sameDouble("readShare of a raw one", x.readShare(), 0.0);
        x.strike(2);
        Check.sameDouble("readShare of all", x.readShare(), 1.0);
        x.strike(4);
        Check.sameDouble("readShare of two thirds", x.readShare(), 2.0 / 3);
        x.remove(0);
        Check.sameDouble("readShare, read anew without the entry", x.readShare(), 0.0);
        x.undo();
        Check.sameDouble("readShare, read anew with it", x.readShare(), 2.0 / 3);
    }

    private static void meanKeys() {
        StenoChords x = new StenoChords();
        Check.sameFloat("meanKeys without strokes", x.meanKeys(), 0.0f);
        x.strike(1023);
        Check.sameFloat("meanKeys of ten", x.meanKeys(), 10.0f);
        x.strike(3);
        x.strike(1);
        Check.sameFloat("meanKeys of a third", x.meanKeys(), 13.0f / 3);
        x.strike(0);
        x.tear();
        Check.sameFloat("meanKeys of what was struck so far", x.meanKeys(), 13.0f / 3);
        x.undo();
        x.undo();
        x.undo();
        Check.sameFloat("meanKeys undone", x.meanKeys(), 6.0f);
    }

    private static void digest() {
        long hash = 3643;
        int[] numbers = new int[12];
        numbers[11] = 4;
        for (int number : numbers) {
            hash = 31 * hash + number;
        }
        int[] wouldBe = {0, 0, 0, NONE, 1, 1};
        for (int number : wouldBe) {
            hash = 31 * hash + number;
        }
        for (int word = 0; word < 10; word++) {
            hash = 31 * hash + NONE;
        }
        hash = 31 * (31 * hash);
        hash = 31 * hash + Double.doubleToLongBits(1.0);
        hash = 31 * (31 * (31 * hash));
        Check.same("digest of a new object", new StenoChords().digest(), hash);
    }

    private static void digestTellsApart() {
        StenoChords x = new StenoChords();
        long first = x.digest();
        x.append('s');
        long second = x.digest();
        Check.holds("digest of the buffer", first != second);
        x.clearBuffer();
        x.append('t');
        Check.holds("digest of its codes", x.digest() != second);
        x.clearBuffer();
        Check.same("digest changes nothing", x.digest(), first);
    }
}
