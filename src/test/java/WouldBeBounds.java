/** The sentences of the promises 20 to 27, each with a test of its own. */
final class WouldBeBounds {
    private static final int NONE = StenoChords.NONE;

    private WouldBeBounds() {
    }

    static void run(Document document) {
        ifStruck(document);
        begun(document);
        shortest(document);
        behind(document);
        least(document);
        shares(document);
    }

    private static void ifStruck(Document document) {
        document.under("Promise 20: ifStruck");
        document.says("Tells what would be read if a stroke was struck.", WouldBeBounds::asIfStruck);
        document.says("- `stroke`: 1 to 1023", WouldBeBounds::everyStroke);
        document.says("- `what`: 0: the word of the last item then, NONE if it is raw;", WouldBeBounds::wordThen);
        document.says("1: the strokes of the last item then, how many;", WouldBeBounds::strokesThen);
        document.says("2: how many items there would be", WouldBeBounds::itemsThen);
        document.says("Returns the number, whether there is room on the paper or not.", WouldBeBounds::roomOrNot);
        document.says("Throws `IllegalArgumentException` if stroke or what is out of range",
                WouldBeBounds::strokeOrWhatOutOfRange);
    }

    private static void begun(Document document) {
        document.under("Promise 21: begun");
        document.says("Tells how many entries can still come of what was struck last: entries, rivals too, whose rows "
                + "begin with just the last strokes on the paper, so many as told, and have more strokes than these "
                + "(whatever setting 1 is).", WouldBeBounds::canStillCome);
        document.says("- `strokes`: 1 to 3: how many last strokes", WouldBeBounds::oneToThree);
        document.says("Returns how many;", WouldBeBounds::howManyBegun);
        document.says("0 if there are not so many strokes on the paper.", WouldBeBounds::notSoManyStrokes);
        document.says("Throws `IllegalArgumentException` if strokes is out of range", WouldBeBounds::strokesOutOfRange);
    }

    private static void shortest(Document document) {
        document.under("Promise 22: shortest");
        document.says("Finds the shortest strokes for a word.", WouldBeBounds::findsTheShortest);
        document.says("- `word`: 0 to 99", WouldBeBounds::everyWord);
        document.says("Returns the entry with this word that is the leading one of its rivals, has the fewest strokes, "
                + "of several the fewest keys, of several the least number, and a row that is read by setting 1;",
                WouldBeBounds::inThisOrder);
        document.says("NONE if there is none.", WouldBeBounds::noneForAWord);
        document.says("Throws `IllegalArgumentException` if word is out of range", WouldBeBounds::wordOutOfRange);
    }

    private static void behind(Document document) {
        document.under("Promise 23: behind");
        document.says("Tells how two entries are read one behind the other.", WouldBeBounds::everyPair);
        document.says("- `first`: the number of an entry", WouldBeBounds::everyFirst);
        document.says("- `second`: the number of an entry", WouldBeBounds::everySecond);
        document.says("Returns 0 if the strokes of the first one and then those of the second one, alone on a paper, "
                + "are read as two items with their two rows, none of them raw;", WouldBeBounds::asTwoItems);
        document.says("1 if they are read as one item;", WouldBeBounds::asOneItem);
        document.says("2 otherwise.", WouldBeBounds::otherwise);
        document.says("Throws `IndexOutOfBoundsException` if there is no such entry", WouldBeBounds::noSuchEntry);
        document.under("Promise 24: clashes");
        document.says("Tells how many pairs of entries are not read as they are.", WouldBeBounds::clashesOfFew);
        document.says("Returns of all pairs of a first and a second entry, also an entry and itself, those for which "
                + "behind() is not 0.", WouldBeBounds::clashesOfAllPairs);
    }

    private static void least(Document document) {
        document.under("Promise 25: least");
        document.says("Tells the fewest items by any reading: the strokes on the paper are parted into rows of entries "
                + "that are read by setting 1, and raw strokes.", WouldBeBounds::byAnyReading);
        document.says("Returns how many rows and raw strokes, at least.", WouldBeBounds::howManyAtLeast);
    }

    private static void shares(Document document) {
        document.under("Promise 26: readShare");
        document.says("Returns how much of the paper is read.", WouldBeBounds::howMuchIsRead);
        document.says("Returns the strokes in items that are not raw, as a double, divided by all strokes on the paper;",
                WouldBeBounds::everyShare);
        document.says("1.0 without strokes.", WouldBeBounds::shareWithoutStrokes);
        document.under("Promise 27: meanKeys");
        document.says("Returns how many keys there were in a stroke.", WouldBeBounds::keysInAStroke);
        document.says("Returns count(8) as a float, divided by count(5);", WouldBeBounds::everyMean);
        document.says("0.0f without strokes so far.", WouldBeBounds::meanWithoutStrokes);
    }

    // ---- ifStruck

    private static void struckIs(StenoChords x, int stroke, int... numbers) {
        for (int what = 0; what < numbers.length; what++) {
            Check.same("ifStruck " + stroke + " " + what, x.ifStruck(stroke, what), numbers[what]);
        }
    }

    private static void asIfStruck() {
        for (int stroke : new int[] {1, 2, 4, 8, 16, 512, 1023}) {
            for (int what = 0; what <= 2; what++) {
                int number = what;
                Trace.looks("ifStruck", Make::full, x -> x.ifStruck(stroke, number));
            }
            StenoChords x = Make.rich();
            StenoChords y = Make.rich();
            y.strike(stroke);
            int last = y.count(2) - 1;
            struckIs(x, stroke, y.item(last, 0), y.item(last, 2), last + 1);
        }
    }

    private static void everyStroke() {
        StenoChords x = Check.withEntries("s");
        for (int stroke = 1; stroke <= 1023; stroke++) {
            if (stroke % 500 == 0) {
                x = Check.withEntries("s");
            }
            Check.same("if struck: " + stroke, x.ifStruck(stroke, 0), stroke == 1 ? 0 : NONE);
        }
    }

    private static void wordThen() {
        for (int word : new int[] {0, 1, 99}) {
            StenoChords x = new StenoChords();
            Check.define(x, "s/t", word);
            struckIs(x, 1, NONE);
            x.strike(1);
            struckIs(x, 2, word);
            struckIs(x, 1, NONE);
            Check.define(x, "s/t", 50);
            struckIs(x, 2, word);
            x.strike(2);
            x.pick(0, 1);
            x.strike(0);
            struckIs(x, 2, 50);
        }
    }

    private static void strokesThen() {
        String text = "s/t/k/p";
        for (int row = 1; row <= 4; row++) {
            StenoChords x = Check.withEntries(text.substring(0, 2 * row - 1));
            for (int place = 0; place < row; place++) {
                Check.same("the last item then", x.ifStruck(1 << place, 1), place == row - 1 ? row : 1);
                x.strike(1 << place);
            }
            Check.same("a raw one behind it", x.ifStruck(8, 1), 1);
            x.strike(0);
            x.set(1, Math.max(1, row - 1));
            Check.same("passed over", x.ifStruck(1 << (row - 1), 1), 1);
        }
    }

    private static void itemsThen() {
        StenoChords x = Check.withEntries("s/t/k/p", "s/t");
        int[] strokes = {1, 2, 4, 8, 1};
        int[] due = {1, 1, 2, 1, 2};
        for (int i = 0; i < strokes.length; i++) {
            Check.same("items then", x.ifStruck(strokes[i], 2), due[i]);
            x.strike(strokes[i]);
        }
    }

    private static void roomOrNot() {
        for (int row = 1; row <= 4; row++) {
            StenoChords x = Check.withEntries("s/t/k/p".substring(0, 2 * row - 1));
            Check.strikeOften(x, 512, 61 - row);
            for (int place = 0; place < row - 1; place++) {
                x.strike(1 << place);
            }
            Check.same("no room", x.count(0), 60);
            struckIs(x, 1 << (row - 1), 0, row, 62 - row);
            struckIs(x, 512, NONE, 1, 61);
            Check.same("still 60", x.count(0), 60);
        }
        struckIs(Make.raw(59), 5, NONE, 1, 60);
        struckIs(Make.raw(0), 5, NONE, 1, 1);
    }

    private static void strokeOrWhatOutOfRange() {
        for (int stroke : new int[] {0, -1, 1024, Integer.MIN_VALUE, Integer.MAX_VALUE}) {
            for (int what = -1; what <= 3; what++) {
                int number = what;
                Trace.refusesArgument("ifStruck " + stroke, Make::rich, x -> x.ifStruck(stroke, number));
            }
            Trace.refusesArgument("ifStruck " + stroke + ", full", Make::fullPaper, x -> x.ifStruck(stroke, 0));
        }
        for (int what : new int[] {-1, 3, Integer.MIN_VALUE, Integer.MAX_VALUE}) {
            Trace.refusesArgument("ifStruck what " + what, Make::rich, x -> x.ifStruck(1, what));
            Trace.refusesArgument("ifStruck 1023 what " + what, Make::rich, x -> x.ifStruck(1023, what));
        }
    }

    // ---- begun

    private static void begunIs(StenoChords x, int... numbers) {
        for (int strokes = 1; strokes <= numbers.length; strokes++) {
            Check.same("begun " + strokes, x.begun(strokes), numbers[strokes - 1]);
        }
    }

    private static void canStillCome() {
        StenoChords x = Check.withEntries("s", "s/t", "s/t", "s/t/k", "s/t/k/p", "t/k", "t/k/p", "k/p", "st/k");
        x.strike(1);
        begunIs(x, 4, 0, 0);
        x.strike(2);
        begunIs(x, 2, 2, 0);
        x.strike(4);
        begunIs(x, 1, 1, 1);
        x.set(1, 1);
        begunIs(x, 1, 1, 1);
        x.strike(8);
        begunIs(x, 0, 0, 0);
        Trace.looks("begun", Make::full, y -> y.begun(3));
        StenoChords y = Check.withEntries("stk/t", "st/t");
        y.strike(3);
        begunIs(y, 1);
    }

    private static void oneToThree() {
        StenoChords x = Check.withEntries("s/t/k/p", "t/k/p", "k/p");
        Check.play(x, "d/s/t/k");
        begunIs(x, 1, 1, 1);
        x.strike(0);
        begunIs(x, 1, 1, 0);
    }

    private static void howManyBegun() {
        StenoChords x = new StenoChords();
        x.strike(1);
        begunIs(x, 0, 0, 0);
        for (int entries = 1; entries <= 24; entries++) {
            Check.define(x, "s/t", entries);
            begunIs(x, entries, 0, 0);
        }
    }

    private static void notSoManyStrokes() {
        StenoChords x = Check.withEntries("s", "s/s", "s/s/s", "s/s/s/s");
        begunIs(x, 0, 0, 0);
        x.strike(1);
        begunIs(x, 3, 0, 0);
        x.strike(1);
        begunIs(x, 3, 2, 0);
        x.strike(1);
        begunIs(x, 3, 2, 1);
        x.strike(0);
        begunIs(x, 3, 2, 0);
        x.tear();
        begunIs(x, 0, 0, 0);
    }

    private static void strokesOutOfRange() {
        for (int strokes : new int[] {0, 4, -1, Integer.MIN_VALUE, Integer.MAX_VALUE}) {
            Trace.refusesArgument("begun " + strokes, Make::rich, x -> x.begun(strokes));
            Trace.refusesArgument("begun " + strokes + " without strokes", Make::fresh, x -> x.begun(strokes));
        }
    }

    // ---- shortest

    private static void findsTheShortest() {
        String[] rows = {"s/t/k/p", "s/t/k", "s/t", "s"};
        StenoChords x = new StenoChords();
        for (int entry = 0; entry < 4; entry++) {
            Check.define(x, rows[entry], 7);
            Check.same("the shortest so far", x.shortest(7), entry);
        }
        Check.define(x, "t/k/p/d", 7);
        Check.same("a longer one", x.shortest(7), 3);
        Trace.looks("shortest", Make::full, y -> y.shortest(0));
    }

    private static void everyWord() {
        for (int word = 0; word <= 99; word++) {
            StenoChords x = new StenoChords();
            Check.define(x, "s", word);
            Check.define(x, "t", (word + 1) % 100);
            Check.same("the word", x.shortest(word), 0);
            Check.same("the next word", x.shortest((word + 1) % 100), 1);
        }
    }

    private static void inThisOrder() {
        StenoChords x = new StenoChords();
        Check.define(x, "s/t/k", 5);
        Check.define(x, "stkpao/stkpao", 5);
        Check.same("the fewest strokes, though more keys", x.shortest(5), 1);
        Check.define(x, "stk/p", 5);
        Check.same("the fewest keys", x.shortest(5), 2);
        Check.define(x, "s/tkp", 5);
        Check.same("the least number", x.shortest(5), 2);
        Check.define(x, "stk/tp", 5);
        Check.same("more keys, behind it", x.shortest(5), 2);
        Check.define(x, "sk/tp/d", 5);
        Check.same("more strokes, behind it", x.shortest(5), 2);
        x.remove(5);
        x.remove(2);
        Check.same("the least number, one gone", x.shortest(5), 2);
        Check.define(x, "d", 6);
        Check.define(x, "d", 5);
        Check.same("not the leading one of its rivals", x.shortest(5), 2);
        x.strike(512);
        x.pick(0, 5);
        Check.same("the leading one now", x.shortest(5), 5);
        x.set(1, 1);
        Check.same("a row of one is read", x.shortest(5), 5);
        x.remove(5);
        Check.same("no row is read by setting 1", x.shortest(5), NONE);
        x.set(1, 2);
        Check.same("rows of two are read", x.shortest(5), 2);
    }

    private static void noneForAWord() {
        Check.same("no entries", new StenoChords().shortest(0), NONE);
        StenoChords x = Check.withEntries("s", "s", "t/k/p/a");
        Check.same("no such word", x.shortest(3), NONE);
        Check.same("a rival leads", x.shortest(1), NONE);
        Check.same("the leading one", x.shortest(0), 0);
        for (int longest = 1; longest <= 4; longest++) {
            x.set(1, longest);
            Check.same("a row of four", x.shortest(2), longest == 4 ? 2 : NONE);
        }
    }

    private static void wordOutOfRange() {
        for (int word : new int[] {-1, 100, Integer.MIN_VALUE, Integer.MAX_VALUE}) {
            Trace.refusesArgument("shortest " + word, Make::rich, x -> x.shortest(word));
        }
        Check.same("the first word", Make.rich().shortest(0), NONE);
        Check.same("the last word", Make.rich().shortest(99), NONE);
    }

    // ---- behind, clashes

    /** Each pair of 24 entries, told by striking them on a paper of their own. */
    private static void everyPair() {
        for (int longest = 1; longest <= 4; longest++) {
            for (int first = 0; first < 24; first++) {
                StenoChords x = withSetting(longest);
                StenoChords paper = x;
                for (int second = 0; second < 24; second++) {
                    paper = second % 8 == 0 ? withSetting(longest) : paper;
                    Check.same("behind " + first + " " + second, x.behind(first, second), struckBehind(paper, first, second));
                }
            }
        }
        Trace.looks("behind", Make::full, x -> x.behind(0, 0));
    }

    /** 24 entries: s and t, which make one item, s/t, and 21 rivals of k between them. */
    private static StenoChords oneOfMany(String first, String last) {
        StenoChords x = Check.withEntries(first);
        for (int word = 1; word <= 21; word++) {
            Check.define(x, "k", word);
        }
        Check.define(x, "s/t", 22);
        Check.define(x, last, 23);
        return x;
    }

    private static void everyFirst() {
        StenoChords x = oneOfMany("s", "t");
        StenoChords y = oneOfMany("t", "s");
        for (int first = 0; first <= 23; first++) {
            Check.same(first + " ahead of t", x.behind(first, 23), first == 0 ? 1 : 0);
            Check.same(first + " ahead of t, the first entry", y.behind(first, 0), first == 23 ? 1 : 0);
        }
    }

    private static void everySecond() {
        StenoChords x = oneOfMany("s", "t");
        StenoChords y = oneOfMany("t", "s");
        for (int second = 0; second <= 23; second++) {
            Check.same(second + " behind s", x.behind(0, second), second == 23 ? 1 : 0);
            Check.same(second + " behind s, the last entry", y.behind(23, second), second == 0 ? 1 : 0);
        }
    }

    private static StenoChords withSetting(int longest) {
        StenoChords x = Make.fullEntries();
        x.set(1, longest);
        return x;
    }

    private static int struckBehind(StenoChords paper, int first, int second) {
        String one = Make.ROWS[first % 12];
        String two = Make.ROWS[second % 12];
        paper.tear();
        for (String stroke : (one + "/" + two).split("/")) {
            paper.strike(stroke.length() == 10 ? 1023 : 1 << "stkp".indexOf(stroke));
        }
        if (paper.count(2) == 1) {
            return 1;
        }
        boolean read = paper.count(2) == 2 && paper.count(3) == 0 && paper.item(0, 2) == one.split("/").length;
        return read ? 0 : 2;
    }

    private static void asTwoItems() {
        StenoChords x = Check.withEntries("s", "s/t/k/p", "s", "d/t/k/p");
        for (int first = 0; first < 4; first++) {
            for (int second = 0; second < 4; second++) {
                Check.same("as they are: " + first + " " + second, x.behind(first, second), 0);
            }
        }
        Check.same("the first paper has no part in it", struckAhead().behind(0, 1), 0);
    }

    private static StenoChords struckAhead() {
        StenoChords x = Check.withEntries("s", "t", "k/s");
        x.strike(4);
        return x;
    }

    private static void asOneItem() {
        StenoChords x = Check.withEntries("s", "t", "s/t", "k/s/t", "s/t/s/t", "k", "t/s/t");
        int[][] ones = {{0, 1}, {2, 2}, {5, 2}, {0, 6}};
        for (int[] pair : ones) {
            Check.same("one item", x.behind(pair[0], pair[1]), 1);
        }
        x.set(1, 3);
        Check.same("a row of four is passed over", x.behind(2, 2), 0);
        Check.same("a row of three is one item", x.behind(5, 2), 1);
        x.set(1, 2);
        Check.same("a row of three is passed over", x.behind(5, 2), 0);
        Check.same("one item still", x.behind(0, 1), 1);
        x.set(1, 1);
        Check.same("a row of two is passed over", x.behind(0, 1), 0);
    }

    private static void otherwise() {
        StenoChords x = Check.withEntries("s", "t/k", "s/t", "k", "k/s/t/k", "p/a/o/e");
        Check.same("two items with other rows", x.behind(0, 1), 2);
        Check.same("as they are", x.behind(2, 3), 0);
        Check.same("one item and a rest", x.behind(3, 1), 0);
        x.set(1, 3);
        Check.same("the second one raw", x.behind(0, 5), 2);
        Check.same("the first one raw", x.behind(5, 0), 2);
        Check.same("both raw", x.behind(5, 5), 2);
        StenoChords y = Check.withEntries("s", "t/k/p", "s/t/k", "p/s/t");
        Check.same("an item and a raw one", y.behind(0, 1), 2);
        Check.same("a rest of three is raw", y.behind(3, 1), 0);
        StenoChords z = Check.withEntries("s/t", "k/p/a/o", "s/t/k/p", "a/o");
        Check.same("two other items of other lengths", z.behind(0, 1), 2);
        StenoChords w = Check.withEntries("s/s", "s/s/s");
        Check.same("s/s and s/s/s", w.behind(0, 1), 2);
        Check.same("s/s/s and s/s", w.behind(1, 0), 0);
        Check.same("s/s and s/s", w.behind(0, 0), 2);
    }

    private static void noSuchEntry() {
        for (int none : new int[] {-1, 5, 24, Integer.MIN_VALUE, Integer.MAX_VALUE}) {
            Trace.refusesIndex("behind " + none + " 0", Make::rich, x -> x.behind(none, 0));
            Trace.refusesIndex("behind 0 " + none, Make::rich, x -> x.behind(0, none));
            Trace.refusesIndex("behind " + none, Make::rich, x -> x.behind(none, none));
        }
        Trace.refusesIndex("behind of none", Make::fresh, x -> x.behind(0, 0));
        Trace.refusesIndex("the 25th first", Make::fullEntries, x -> x.behind(24, 23));
        Trace.refusesIndex("the 25th second", Make::fullEntries, x -> x.behind(23, 24));
        Check.same("the 24th twice", Make.fullEntries().behind(23, 23), 0);
    }

    private static void clashesOfFew() {
        StenoChords x = new StenoChords();
        Check.same("of none", x.clashes(), 0);
        Check.define(x, "s", 0);
        Check.same("of one", x.clashes(), 0);
        Check.define(x, "s/s", 0);
        Check.same("s s, s s/s", x.clashes(), 2);
        Check.define(x, "s/s", 1);
        Check.same("rivals too", x.clashes(), 3);
        x.set(1, 1);
        Check.same("rows that are not read", x.clashes(), 8);
        Trace.looks("clashes", Make::full, y -> y.clashes());
    }

    private static void clashesOfAllPairs() {
        for (int longest = 1; longest <= 4; longest++) {
            int pairs = 0;
            for (int first = 0; first < 24; first++) {
                StenoChords x = withSetting(longest);
                for (int second = 0; second < 24; second++) {
                    pairs += x.behind(first, second) == 0 ? 0 : 1;
                }
            }
            Check.same("of 576 pairs, by setting 1 as " + longest, withSetting(longest).clashes(), pairs);
        }
        StenoChords x = Check.withEntries("s", "s/s");
        Check.same("an entry and itself", x.behind(0, 0) + 10 * x.clashes(), 21);
        StenoChords y = new StenoChords();
        for (int word = 0; word < 24; word++) {
            Check.define(y, "s/t", word);
        }
        y.set(1, 1);
        Check.same("all pairs of 24", y.clashes(), 576);
    }

    // ---- least

    private static void byAnyReading() {
        StenoChords x = Check.withEntries("s/t", "t/k/p/a", "s", "k/p");
        Check.play(x, "s/t/k/p/a");
        Check.same("another reading", x.least(), 2);
        Check.same("than the greedy one", x.count(2), 3);
        int[] due = {5, 3, 3, 2};
        for (int longest = 1; longest <= 4; longest++) {
            x.set(1, longest);
            Check.same("rows that are read by setting 1", x.least(), due[longest - 1]);
        }
        x.remove(1);
        Check.same("without the row", x.least(), 3);
        Trace.looks("least", Make::full, y -> y.least());
    }

    private static void howManyAtLeast() {
        Check.same("of none", new StenoChords().least(), 0);
        for (int strokes : new int[] {1, 2, 59, 60}) {
            Check.same("raw ones", Make.raw(strokes).least(), strokes);
        }
        for (int row = 1; row <= 4; row++) {
            for (int strokes = 0; strokes <= 60; strokes++) {
                StenoChords x = Check.withEntries("s/s/s/s".substring(0, 2 * row - 1));
                Check.strikeOften(x, 1, strokes);
                Check.same("rows of " + row + " in " + strokes, x.least(), strokes / row + strokes % row);
            }
        }
        StenoChords x = Check.withEntries("s/s/s", "s/s/s/t", "s");
        for (int place = 0; place < 60; place++) {
            x.strike(place % 5 == 4 ? 2 : 1);
        }
        Check.same("a full paper, greedily", x.count(2), 36);
        Check.same("a full paper, at least", x.least(), 24);
    }

    // ---- readShare, meanKeys

    private static void howMuchIsRead() {
        StenoChords x = Check.withEntries("s/t", "s/t/k/p");
        Check.play(x, "d/s/t/k");
        Check.sameDouble("a half", x.readShare(), 0.5);
        x.strike(8);
        Check.sameDouble("four fifths", x.readShare(), 0.8);
        x.set(1, 1);
        Check.sameDouble("nothing", x.readShare(), 0.0);
        Trace.looks("readShare", Make::full, y -> y.readShare());
    }

    private static void everyShare() {
        for (int all = 1; all <= 60; all++) {
            for (int read = 0; read <= all; read++) {
                StenoChords x = Check.withEntries("s");
                Check.strikeOften(x, 1, read);
                Check.strikeOften(x, 2, all - read);
                Check.sameDouble(read + " of " + all, x.readShare(), (double) read / all);
            }
        }
    }

    private static void shareWithoutStrokes() {
        Check.sameDouble("of a new object", new StenoChords().readShare(), 1.0);
        Check.sameDouble("with entries", Make.fullEntries().readShare(), 1.0);
        StenoChords x = Make.raw(1);
        Check.sameDouble("one raw stroke", x.readShare(), 0.0);
        x.strike(0);
        Check.sameDouble("eaten", x.readShare(), 1.0);
    }

    private static void keysInAStroke() {
        StenoChords x = new StenoChords();
        x.strike(1023);
        Check.sameFloat("the most", x.meanKeys(), 10.0f);
        x.strike(1);
        Check.sameFloat("between", x.meanKeys(), 5.5f);
        x.strike(0);
        x.tear();
        Check.sameFloat("what was struck so far", x.meanKeys(), 5.5f);
        Trace.looks("meanKeys", Make::full, y -> y.meanKeys());
    }

    /** All means of up to 24 strokes: some of them with all ten keys, one between, the others with one. */
    private static void everyMean() {
        for (int strokes = 1; strokes <= 24; strokes++) {
            for (int keys = strokes; keys <= 10 * strokes; keys++) {
                StenoChords x = struckWith(strokes, keys);
                Check.sameFloat(keys + " in " + strokes, x.meanKeys(), (float) keys / strokes);
            }
        }
    }

    static StenoChords struckWith(int strokes, int keys) {
        StenoChords x = new StenoChords();
        int more = keys - strokes;
        for (int stroke = 0; stroke < strokes; stroke++) {
            int own = Math.min(9, more);
            more -= own;
            x.strike((1 << (own + 1)) - 1);
        }
        return x;
    }

    private static void meanWithoutStrokes() {
        Check.sameFloat("of a new object", new StenoChords().meanKeys(), 0.0f);
        Check.sameFloat("with entries", Make.fullEntries().meanKeys(), 0.0f);
        StenoChords x = Make.raw(1);
        Check.sameFloat("one stroke", x.meanKeys(), 2.0f);
        x.undo();
        Check.sameFloat("undone", x.meanKeys(), 0.0f);
    }
}
