import java.lang.reflect.Array;
import java.lang.reflect.Field;
import java.lang.reflect.Modifier;
import java.util.ArrayDeque;
import java.util.Deque;
import java.util.IdentityHashMap;
import java.util.Map;

/** The room that a run of calls may take: even 512 new mills fit, and no call lets a mill grow. */
public final class RoomTest {
    private static final Check CHECK = new Check("RoomTest");
    private static final int CALLS = 512;
    private static final int MOST_OBJECTS = 600_000;
    private static final int MOST_CELLS = 7_300_000;
    // More characters than a text of the mill has; how the library holds them is its own matter.
    private static final int CELLS_OF_A_TEXT = 120;

    private final Map<Object, Boolean> seen = new IdentityHashMap<>();
    private final Deque<Object> open = new ArrayDeque<>();
    private int cells;

    public static void main(String[] args) throws ReflectiveOperationException {
        RoomTest room = new RoomTest();
        room.count(new YarnMill());
        CHECK.due("512 mills have " + room.seen.size() * CALLS + " objects at most",
                room.seen.size() * CALLS <= MOST_OBJECTS, true);
        CHECK.due("512 mills have " + room.cells * CALLS + " fields and elements at most",
                room.cells * CALLS <= MOST_CELLS, true);
        RoomTest used = new RoomTest();
        used.count(usedMill());
        CHECK.due("objects of a used mill", used.seen.size(), room.seen.size());
        CHECK.due("fields and elements of a used mill", used.cells, room.cells);
        CHECK.end();
    }

    /** A mill that has been filled, saved, undone and asked. */
    private static YarnMill usedMill() {
        YarnMill mill = Mills.withPieces(50, Mills.pieces(12, 10));
        for (int bale = 0; bale < 10; bale++) {
            mill.buyBale(10, 30, 1);
        }
        for (int order = 0; order < 8; order++) {
            mill.addOrder(order + 1, 9);
        }
        mill.setMachines(3);
        mill.save();
        mill.renderShelf();
        mill.isConsistent();
        Mills.run(mill, "sell 0;sell 0;splice 1;spin 13;blend 60 20;bale 1 10 1;join");
        CHECK.throwsJust("a script that fails", Check.STATE, () -> Mills.run(mill, "machines 1;machines 0"));
        mill.undo();
        mill.restore();
        return mill;
    }

    private void count(YarnMill mill) throws ReflectiveOperationException {
        reach(mill);
        while (!open.isEmpty()) {
            Object object = open.remove();
            if (object instanceof StringBuilder) {
                cells += CELLS_OF_A_TEXT;
            } else if (object.getClass().isArray()) {
                countElements(object);
            } else {
                countFields(object);
            }
        }
    }

    private void reach(Object object) {
        if (object != null && !(object instanceof Enum) && seen.put(object, true) == null) {
            open.add(object);
        }
    }

    private void countElements(Object array) {
        int length = Array.getLength(array);
        cells += length;
        for (int index = 0; index < length && !array.getClass().getComponentType().isPrimitive(); index++) {
            reach(Array.get(array, index));
        }
    }

    private void countFields(Object object) throws ReflectiveOperationException {
        for (Field field : object.getClass().getDeclaredFields()) {
            if (!Modifier.isStatic(field.getModifiers())) {
                cells++;
                field.setAccessible(true);
                if (!field.getType().isPrimitive()) {
                    reach(field.get(object));
                }
            }
        }
    }
}
