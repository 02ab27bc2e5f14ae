import java.lang.reflect.Array;
import java.lang.reflect.Field;
import java.lang.reflect.Modifier;
import java.util.Collections;
import java.util.IdentityHashMap;
import java.util.Set;

/** How much room an object takes: its objects and arrays, their fields and elements. */
final class RoomTest {
    private static final int OBJECTS = 100;
    private static final int ELEMENTS = 20000;

    private final Set<Object> seen = Collections.newSetFromMap(new IdentityHashMap<>());
    private int elements = 0;

    public static void main(String[] args) throws IllegalAccessException {
        Check check = new Check();
        ForestHouse x = new ForestHouse();
        RoomTest before = of(x);
        check.same("few objects", "true", Boolean.toString(before.seen.size() <= OBJECTS));
        check.same("few elements", "true", Boolean.toString(before.elements <= ELEMENTS));
        for (State state : State.ALL) {
            RoomTest after = of(state.made());
            check.due("objects in a state", before.seen.size(), () -> after.seen.size());
            check.due("elements in a state", before.elements, () -> after.elements);
        }
        ForestHouse full = State.FULL.made();
        RoomTest held = of(full);
        for (int i = 0; i < 90; i++) {
            full.count(0, 0, 24);
            full.tree(i % 10, 0, 24, i);
            full.next(24);
            full.cut(23);
            full.put(0);
        }
        RoomTest later = of(full);
        check.same("the same objects as before", "true", Boolean.toString(held.seen.equals(later.seen)));
        check.end();
    }

    private static RoomTest of(ForestHouse x) throws IllegalAccessException {
        RoomTest room = new RoomTest();
        room.visit(x);
        return room;
    }

    private void visit(Object object) throws IllegalAccessException {
        if (object == null || !seen.add(object)) {
            return;
        }
        if (object.getClass().isArray()) {
            elements += Array.getLength(object);
            for (int i = 0; object instanceof Object[] && i < Array.getLength(object); i++) {
                visit(Array.get(object, i));
            }
            return;
        }
        for (Field field : object.getClass().getDeclaredFields()) {
            if (!Modifier.isStatic(field.getModifiers())) {
                elements++;
                field.setAccessible(true);
                if (!field.getType().isPrimitive()) {
                    visit(field.get(object));
                }
            }
        }
    }
}
