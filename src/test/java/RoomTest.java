import java.lang.reflect.Array;
import java.lang.reflect.Field;
import java.lang.reflect.Modifier;
import java.util.IdentityHashMap;
import java.util.Map;

/** All calls of a run live in one room: an object takes little of it, and no more after many calls. */
public final class RoomTest extends Due {
    private static final int MOST_OBJECTS = 1000;
    private static final int MOST_ELEMENTS = 10000;
    private static final int ROUNDS = 16;

    private final Map<Object, Object> seen = new IdentityHashMap<>();
    private long elements;

    private RoomTest() {
        super("RoomTest");
    }

    public static void main(String[] args) throws Exception {
        RoomTest t = new RoomTest();
        t.anew("rule 12");
        t.measure();
        int objects = t.seen.size();
        long elements = t.elements;
        System.out.println("RoomTest: " + objects + " objects, " + elements + " fields and elements");
        t.due(objects + " objects are few", objects <= MOST_OBJECTS, true);
        t.due(elements + " fields and elements are few", elements <= MOST_ELEMENTS, true);
        t.use();
        t.measure();
        t.due("objects behind many calls", t.seen.size(), objects);
        t.due("fields and elements behind many calls", t.elements, elements);
        t.finish();
    }

    private void use() {
        house(0, "abcdefghabcdefgh");
        parrots("08;08;08;18;28;38");
        for (int i = 0; i < ROUNDS; i++) {
            rule("n*3-f+t*5");
            trial("d1m01t0ak1s2x");
            law("((((n))))");
            x.keep(i % 2);
            x.before(i % 8, (i + 1) % 8);
            x.note(i % 5, i % 4);
            x.years(i, 60);
            x.clash();
        }
    }

    private void measure() throws IllegalAccessException {
        seen.clear();
        elements = 0;
        walk(x);
    }

    /** Constants are of the class, not of the object. */
    private void walk(Object one) throws IllegalAccessException {
        if (one == null || seen.put(one, one) != null) {
            return;
        }
        if (one.getClass().isArray()) {
            walkArray(one);
            return;
        }
        for (Field f : one.getClass().getDeclaredFields()) {
            if (!Modifier.isStatic(f.getModifiers())) {
                elements++;
                f.setAccessible(true);
                if (!f.getType().isPrimitive()) {
                    walk(f.get(one));
                }
            }
        }
    }

    private void walkArray(Object row) throws IllegalAccessException {
        int length = Array.getLength(row);
        elements += length;
        for (int i = 0; i < length && !row.getClass().getComponentType().isPrimitive(); i++) {
            walk(Array.get(row, i));
        }
    }
}
