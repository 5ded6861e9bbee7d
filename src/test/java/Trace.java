import java.util.function.Consumer;
import java.util.function.Supplier;

/**
 * All that an object holds, told as one text: the state and the buffer by their hash, then each
 * saved state, the latest first, and the snapshot. An object can't be used behind that, so the tests
 * tell how an object is made, and compare two of them.
 */
final class Trace {
    private Trace() {
    }

    static String of(StenoChords x) {
        StringBuilder told = new StringBuilder();
        told.append(x.digest());
        for (int left = x.count(9); left > 0; left--) {
            x.undo();
            told.append(" saved ").append(x.digest());
        }
        try {
            x.goBack();
            told.append(" snapshot ").append(x.digest());
        } catch (IllegalStateException e) {
            told.append(" no snapshot");
        }
        return told.toString();
    }

    /** The call throws just this exception, and nothing of the object is changed. */
    static void refuses(String what, Class<?> due, Supplier<StenoChords> make, Consumer<StenoChords> call) {
        StenoChords x = make.get();
        Class<?> thrown = null;
        try {
            call.accept(x);
        } catch (RuntimeException e) {
            thrown = e.getClass();
        }
        Check.sameText(what + " throws", String.valueOf(thrown), String.valueOf(due));
        Check.sameText(what + " changes nothing", of(x), of(make.get()));
    }

    static void refusesArgument(String what, Supplier<StenoChords> make, Consumer<StenoChords> call) {
        refuses(what, IllegalArgumentException.class, make, call);
    }

    static void refusesState(String what, Supplier<StenoChords> make, Consumer<StenoChords> call) {
        refuses(what, IllegalStateException.class, make, call);
    }

    static void refusesIndex(String what, Supplier<StenoChords> make, Consumer<StenoChords> call) {
        refuses(what, IndexOutOfBoundsException.class, make, call);
    }

    /** The call answers, and nothing of the object is changed. */
    static void looks(String what, Supplier<StenoChords> make, Consumer<StenoChords> call) {
        StenoChords x = make.get();
        call.accept(x);
        Check.sameText(what + " changes nothing", of(x), of(make.get()));
    }

    /** The call saves one state, and undo() gives back all but the buffer. */
    static void undoable(String what, Supplier<StenoChords> make, Consumer<StenoChords> call) {
        StenoChords x = make.get();
        int saved = x.count(9);
        call.accept(x);
        Check.same(what + " saves one state", x.count(9), saved + 1);
        Check.same(what + " is undone", x.undo(), saved);
        Check.sameText(what + " undone", of(withoutText(x)), of(withoutText(make.get())));
    }

    static StenoChords withoutText(StenoChords x) {
        x.clearBuffer();
        return x;
    }
}
