/** What the tests share: comparing answers, counting them, and short ways to drive an object. */
final class Check {
    private static int right = 0;
    private static int wrong = 0;

    private Check() {
    }

    static void same(String what, long got, long want) {
        judge(got == want, what + " answered " + got + ", due is " + want);
    }

    static void sameDouble(String what, double got, double want) {
        judge(Double.compare(got, want) == 0, what + " answered " + got + ", due is " + want);
    }

    static void sameFloat(String what, float got, float want) {
        judge(Float.compare(got, want) == 0, what + " answered " + got + ", due is " + want);
    }

    static void holds(String what, boolean fact) {
        judge(fact, what + " does not hold");
    }

    /** The call throws just this exception, and changes nothing. */
    static void refuses(StenoChords x, String what, Class<?> due, Runnable call) {
        long before = x.digest();
        Class<?> thrown = null;
        try {
            call.run();
        } catch (RuntimeException e) {
            thrown = e.getClass();
        }
        judge(thrown == due, what + " threw " + thrown + ", due is " + due);
        judge(x.digest() == before, what + " threw and changed something");
    }

    static void refusesArgument(StenoChords x, String what, Runnable call) {
        refuses(x, what, IllegalArgumentException.class, call);
    }

    static void refusesState(StenoChords x, String what, Runnable call) {
        refuses(x, what, IllegalStateException.class, call);
    }

    static void refusesIndex(StenoChords x, String what, Runnable call) {
        refuses(x, what, IndexOutOfBoundsException.class, call);
    }

    static void type(StenoChords x, String text) {
        for (int i = 0; i < text.length(); i++) {
            x.append(text.charAt(i));
        }
    }

    static int define(StenoChords x, String text, int word) {
        type(x, text);
        return x.define(word);
    }

    static int play(StenoChords x, String text) {
        type(x, text);
        return x.play();
    }

    static StenoChords withEntries(String... rows) {
        StenoChords x = new StenoChords();
        for (int word = 0; word < rows.length; word++) {
            define(x, rows[word], word);
        }
        return x;
    }

    static void strikeOften(StenoChords x, int stroke, int times) {
        for (int i = 0; i < times; i++) {
            x.strike(stroke);
        }
    }

    /** The items' lengths as digits, a raw one as 0. */
    static String items(StenoChords x) {
        StringBuilder told = new StringBuilder();
        for (int item = 0; item < x.count(2); item++) {
            told.append(x.item(item, 0) == StenoChords.NONE ? 0 : x.item(item, 2));
        }
        return told.toString();
    }

    static void sameText(String what, String got, String want) {
        judge(got.equals(want), what + " answered " + got + ", due is " + want);
    }

    static int rightSoFar() {
        return right;
    }

    static int wrongSoFar() {
        return wrong;
    }

    static void finish() {
        System.out.println(right + " answers right, " + wrong + " wrong");
        if (wrong != 0 || right == 0) {
            System.exit(1);
        }
    }

    private static void judge(boolean fine, String otherwise) {
        if (fine) {
            right++;
        } else {
            wrong++;
            System.out.println("WRONG: " + otherwise);
        }
    }
}
