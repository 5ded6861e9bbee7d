import java.lang.reflect.Array;
import java.lang.reflect.Field;
import java.lang.reflect.Modifier;
import java.util.ArrayDeque;
import java.util.Collections;
import java.util.Deque;
import java.util.IdentityHashMap;
import java.util.Set;
import java.util.function.Supplier;

/**
 * How much room an object takes. That its calls make nothing more, LanguageTest sees by the compiled class:
 * objects are made by constructors alone.
 */
public final class RoomTest {
    private final Set<Object> seen = Collections.newSetFromMap(new IdentityHashMap<>());
    private final Deque<Object> open = new ArrayDeque<>();
    private int cells;

    public static void main(String[] args) throws Exception {
        for (Supplier<StenoChords> make : Make.all()) {
            new RoomTest().measure(make.get());
        }
        Check.finish();
    }

    /** The room for one run would hold a thousand objects. */
    private void measure(StenoChords x) throws Exception {
        meet(x);
        while (!open.isEmpty()) {
            Object next = open.pop();
            if (next.getClass().isArray()) {
                meetElements(next);
            } else {
                meetFields(next);
            }
        }
        Check.holds("objects and arrays: " + seen.size(), seen.size() <= 600_000 / 1000);
        Check.holds("fields and elements: " + cells, cells <= 7_300_000 / 1000 && cells >= 60 + 60 + 24 * 4);
    }

    private void meet(Object object) {
        if (object != null && seen.add(object)) {
            open.push(object);
        }
    }

    private void meetElements(Object array) {
        cells += Array.getLength(array);
        for (int place = 0; place < Array.getLength(array); place++) {
            if (!array.getClass().getComponentType().isPrimitive()) {
                meet(Array.get(array, place));
            }
        }
    }

    private void meetFields(Object object) throws Exception {
        for (Field field : object.getClass().getDeclaredFields()) {
            if (!Modifier.isStatic(field.getModifiers())) {
                cells++;
                field.setAccessible(true);
                if (!field.getType().isPrimitive()) {
                    meet(field.get(object));
                }
            }
        }
    }
}
