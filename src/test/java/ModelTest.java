import java.util.function.Supplier;

/**
 * Long runs of calls, always the same ones; each answer is compared with the Model's. No object is
 * called more than 512 times, since what it answers then is free.
 */
public final class ModelTest {
    private static final int RUNS = 240;
    private static final int CALLS = 512;

    private static long seed;

    public static void main(String[] args) {
        for (int run = 0; run < RUNS; run++) {
            seed = run * 7919L + 1;
            new ModelTest(run).go();
        }
        Check.finish();
    }

    private final StenoChords x = new StenoChords();
    private final Model model = new Model();
    private final int run;
    // How many different keys are in play: few keys make rows that meet, many make all masks.
    private final int keys;
    // Some runs fill the paper and the entries, others eat and remove a lot.
    private final int taste;
    private int calls;

    private ModelTest(int run) {
        this.run = run;
        this.keys = new int[] {1, 2, 2, 3, 10}[run % 5];
        this.taste = run / 5 % 3;
    }

    private void go() {
        while (calls < CALLS - 1) {
            step(below(100));
        }
        Check.same(told("the last digest"), x.digest(), model.digest());
    }

    private void step(int kind) {
        if (kind < 34) {
            strikingStep(kind);
        } else if (kind < 60) {
            entriesStep(kind - 34);
        } else if (kind < 78) {
            looksStep(kind - 60);
        } else if (kind < 90) {
            wouldBeStep(kind - 78);
        } else {
            snapshotStep(kind - 90);
        }
    }

    private void strikingStep(int kind) {
        int stroke = kind < 20 ? aStroke() : kind < 26 && taste != 1 ? 0 : around(0, 1023);
        int item = around(0, 20);
        int entry = around(0, 10);
        if (kind < 27) {
            answer("strike " + stroke, () -> x.strike(stroke), () -> model.strike(stroke));
        } else if (kind < 30) {
            text(1 + below(taste == 1 ? 20 : 6), taste == 1 ? 9 : 3);
            answer("play", x::play, model::play);
        } else if (kind < 33) {
            answer("pick " + item + " " + entry, () -> x.pick(item, entry), () -> model.pick(item, entry));
        } else if (taste == 2 || below(8) == 0) {
            answer("tear", x::tear, model::tear);
        }
    }

    private void entriesStep(int kind) {
        int word = below(12) == 0 ? around(0, 99) : below(10);
        int entry = around(0, 23);
        int setting = around(0, 1);
        int value = around(setting, setting == 0 ? 1 : 4);
        if (kind < 15) {
            text(1 + below(4), 40);
            answer("define " + word, () -> x.define(word), () -> model.define(word));
        } else if (kind < 18 && (taste != 1 || below(6) == 0)) {
            answer("remove " + entry, () -> x.remove(entry), () -> model.remove(entry));
        } else if (kind < 20) {
            answer("set " + setting + " " + value, () -> x.set(setting, value), () -> model.set(setting, value));
        } else if (kind < 22) {
            int code = below(3) == 0 ? around(33, 126) : "stkpaoerld/*".charAt(below(12));
            answer("append " + code, () -> x.append(code), () -> model.append(code));
        } else if (kind < 24) {
            answer("firstError", x::firstError, model::firstError);
        } else {
            answer("clearBuffer", x::clearBuffer, model::clearBuffer);
        }
    }

    private void looksStep(int kind) {
        int place = around(0, 59);
        int item = around(0, 20);
        int entry = around(0, 10);
        int what = around(0, 9);
        if (kind < 3) {
            answer("stroke " + place, () -> x.stroke(place), () -> model.stroke(place));
        } else if (kind < 8) {
            int number = around(0, 4);
            answer("item " + item + " " + number, () -> x.item(item, number), () -> model.item(item, number));
        } else if (kind < 13) {
            answer("entry " + entry + " " + what, () -> x.entry(entry, what), () -> model.entry(entry, what));
        } else if (kind < 17) {
            answer("count " + what, () -> x.count(what), () -> model.count(what));
        } else {
            int setting = around(0, 1);
            answer("setting " + setting, () -> x.setting(setting), () -> model.setting(setting));
        }
    }

    private void wouldBeStep(int kind) {
        int stroke = below(4) == 0 ? around(1, 1023) : aStroke();
        int what = around(0, 2);
        int strokes = around(1, 3);
        int word = below(12) == 0 ? around(0, 99) : below(10);
        int first = around(0, 10);
        int second = around(0, 10);
        if (kind < 3) {
            answer("ifStruck " + stroke + " " + what, () -> x.ifStruck(stroke, what), () -> model.ifStruck(stroke, what));
        } else if (kind < 5) {
            answer("begun " + strokes, () -> x.begun(strokes), () -> model.begun(strokes));
        } else if (kind < 7) {
            answer("shortest " + word, () -> x.shortest(word), () -> model.shortest(word));
        } else if (kind < 9) {
            answer("behind " + first + " " + second, () -> x.behind(first, second), () -> model.behind(first, second));
        } else if (kind < 10) {
            answer("clashes", x::clashes, model::clashes);
        } else if (kind < 11) {
            answer("least", x::least, model::least);
        } else {
            answer("readShare", () -> Double.doubleToLongBits(x.readShare()), () -> Double.doubleToLongBits(model.readShare()));
            answer("meanKeys", () -> Float.floatToIntBits(x.meanKeys()), () -> Float.floatToIntBits(model.meanKeys()));
        }
    }

    private void snapshotStep(int kind) {
        if (kind < 2) {
            answer("keep", x::keep, model::keep);
        } else if (kind < 3) {
            answer("goBack", x::goBack, model::goBack);
        } else if (kind < 7) {
            answer("undo", x::undo, model::undo);
        } else {
            answer("digest", x::digest, model::digest);
        }
    }

    /** Types strokes, seldom with a sign that is out of place; one in so many is an asterisk. */
    private void text(int strokes, int asterisks) {
        if (below(3) > 0) {
            answer("clearBuffer", x::clearBuffer, model::clearBuffer);
        }
        StringBuilder text = new StringBuilder();
        for (int i = 0; i < strokes; i++) {
            text.append(i == 0 ? "" : "/").append(below(asterisks) == 0 ? "*" : letters(aStroke()));
        }
        if (below(12) == 0) {
            text.insert(below(text.length() + 1), "/s*d~".charAt(below(5)));
        }
        for (char sign : text.toString().toCharArray()) {
            answer("append " + sign, () -> x.append(sign), () -> model.append(sign));
        }
    }

    private static String letters(int stroke) {
        StringBuilder letters = new StringBuilder();
        for (int key = 0; key < 10; key++) {
            if ((stroke >> key & 1) == 1) {
                letters.append("stkpaoerld".charAt(key));
            }
        }
        return letters.toString();
    }

    private int aStroke() {
        return 1 + below((1 << keys) - 1);
    }

    /** A number from low to high, seldom one just outside or far away. */
    private static int around(int low, int high) {
        int chance = below(40);
        if (chance == 0) {
            return low - 1;
        }
        if (chance == 1) {
            return high + 1;
        }
        if (chance == 2) {
            return below(2) == 0 ? Integer.MIN_VALUE : Integer.MAX_VALUE;
        }
        return low + below(high - low + 1);
    }

    private static int below(int bound) {
        seed = seed * 6364136223846793005L + 1442695040888963407L;
        return (int) Math.floorMod(seed >>> 33, (long) bound);
    }

    private void answer(String what, Supplier<? extends Number> got, Supplier<? extends Number> due) {
        // The last call is kept for the digest.
        if (calls < CALLS - 1) {
            calls++;
            Check.sameText(told(what), answerOf(got), answerOf(due));
        }
    }

    private static String answerOf(Supplier<? extends Number> call) {
        try {
            return String.valueOf(call.get().longValue());
        } catch (RuntimeException e) {
            return "throws." + e.getClass().getSimpleName();
        }
    }

    private String told(String what) {
        return "run " + run + ", call " + calls + ": " + what;
    }
}
