/** Promises 15 to 19: stroke, item, entry, count, setting. */
public final class LooksTest {
    private static final int NONE = StenoChords.NONE;

    public static void main(String[] args) {
        stroke();
        item();
        entry();
        entryThatIsNotRead();
        count();
        countOfItems();
        setting();
        Check.finish();
    }

    private static void stroke() {
        StenoChords x = new StenoChords();
        Check.refusesIndex(x, "stroke(0) of none", () -> x.stroke(0));
        Check.play(x, "s/stkpaoerld/d");
        Check.same("stroke(0)", x.stroke(0), 1);
        Check.same("stroke(1)", x.stroke(1), 1023);
        Check.same("stroke(2)", x.stroke(2), 512);
        x.strike(0);
        Check.refusesIndex(x, "stroke(2), eaten", () -> x.stroke(2));
        Check.refusesIndex(x, "stroke(-1)", () -> x.stroke(-1));
        Check.refusesIndex(x, "stroke(min)", () -> x.stroke(Integer.MIN_VALUE));
    }

    private static void item() {
        StenoChords x = Check.withEntries("s", "s/t", "k", "s/t");
        Check.play(x, "p/s/t/s");
        itemIs(x, 0, NONE, 0, 1, NONE, 0);
        itemIs(x, 1, 1, 1, 2, 1, 2);
        itemIs(x, 2, 0, 3, 1, 0, 1);
        x.pick(1, 3);
        itemIs(x, 1, 3, 1, 2, 3, 2);
        x.remove(0);
        itemIs(x, 1, 3, 1, 2, 2, 2);
        itemIs(x, 2, NONE, 3, 1, NONE, 0);
        Check.refusesIndex(x, "item(-1, 0)", () -> x.item(-1, 0));
        Check.refusesIndex(x, "item(3, 9)", () -> x.item(3, 9));
        Check.refusesArgument(x, "item(0, -1)", () -> x.item(0, -1));
        Check.refusesArgument(x, "item(0, 5)", () -> x.item(0, 5));
    }

    private static void itemIs(StenoChords x, int item, int... numbers) {
        for (int what = 0; what < numbers.length; what++) {
            Check.same("item(" + item + ", " + what + ")", x.item(item, what), numbers[what]);
        }
    }

    private static void entry() {
        StenoChords x = Check.withEntries("st/k/ta", "p", "p", "s/t/k/stkpaoerld");
        Check.play(x, "p/st/k/ta/p/a");
        x.pick(0, 2);
        entryIs(x, 0, 0, 3, 3, 4, 18, NONE, 0, 1, 1, 5);
        entryIs(x, 1, 1, 1, 8, NONE, NONE, NONE, 0, 0, 0, 1);
        entryIs(x, 2, 2, 1, 8, NONE, NONE, NONE, 1, 1, 2, 1);
        entryIs(x, 3, 3, 4, 1, 2, 4, 1023, 0, 1, 0, 13);
        Check.refusesIndex(x, "entry(-1, 0)", () -> x.entry(-1, 0));
        Check.refusesIndex(x, "entry(4, 10)", () -> x.entry(4, 10));
        Check.refusesArgument(x, "entry(0, -1)", () -> x.entry(0, -1));
        Check.refusesArgument(x, "entry(0, 10)", () -> x.entry(0, 10));
    }

    private static void entryThatIsNotRead() {
        StenoChords x = Check.withEntries("s/t");
        Check.play(x, "s/t");
        x.set(1, 1);
        entryIs(x, 0, 0, 2, 1, 2, NONE, NONE, 0, 1, 0, 2);
    }

    private static void entryIs(StenoChords x, int entry, int... numbers) {
        for (int what = 0; what < numbers.length; what++) {
            Check.same("entry(" + entry + ", " + what + ")", x.entry(entry, what), numbers[what]);
        }
    }

    private static void count() {
        StenoChords x = Check.withEntries("s/t", "k");
        Check.play(x, "s/t/stk/*/k/p");
        x.set(0, 1);
        x.strike(2);
        x.strike(0);
        int[] due = {4, 3, 3, 1, 2, 6, 2, 2, 8, 6};
        for (int what = 0; what < due.length; what++) {
            Check.same("count(" + what + ")", x.count(what), due[what]);
        }
        Check.refusesArgument(x, "count(-1)", () -> x.count(-1));
        Check.refusesArgument(x, "count(10)", () -> x.count(10));
    }

    private static void countOfItems() {
        StenoChords x = Check.withEntries("s/s/s/s", "s/s", "t/s/s");
        for (int i = 0; i < 40; i++) {
            x.strike(i % 7 == 6 ? 2 : 1);
            Check.same("told stroke by stroke, or all anew", x.count(1), x.count(2));
        }
        x.set(1, 2);
        Check.same("short rows stroke by stroke", x.count(1), x.count(2));
    }

    private static void setting() {
        StenoChords x = new StenoChords();
        x.set(0, 1);
        x.set(1, 3);
        Check.same("setting(0)", x.setting(0), 1);
        Check.same("setting(1)", x.setting(1), 3);
        Check.refusesIndex(x, "setting(-1)", () -> x.setting(-1));
        Check.refusesIndex(x, "setting(2)", () -> x.setting(2));
    }
}
