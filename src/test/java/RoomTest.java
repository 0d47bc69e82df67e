import java.lang.reflect.Array;
import java.lang.reflect.Field;
import java.lang.reflect.Modifier;
import java.util.Collections;
import java.util.IdentityHashMap;
import java.util.Set;

/** A telegraph makes its rows once and uses them again, so that the calls of a run fit in one room. */
public final class RoomTest {
    private static final int MOST_OBJECTS = 1000;
    private static final int MOST_ELEMENTS = 12000;

    private final Set<Object> seen = Collections.newSetFromMap(new IdentityHashMap<>());
    private int elements = 0;

    public static void main(String[] args) throws IllegalAccessException {
        BellTelegraph x = new BellTelegraph();
        RoomTest before = new RoomTest();
        before.count(x);
        Due.isTrue(before.seen.size() + " objects are few", before.seen.size() <= MOST_OBJECTS);
        Due.isTrue(before.elements + " elements are few", before.elements <= MOST_ELEMENTS);
        use(x);
        RoomTest after = new RoomTest();
        after.count(x);
        Due.is("the objects after 512 calls", after.seen.size(), before.seen.size());
        Due.is("the elements after 512 calls", after.elements, before.elements);
        after.seen.removeAll(before.seen);
        Due.is("the objects that are new after 512 calls", after.seen.size(), 0);
        Due.end("RoomTest");
    }

    /** 6 + 8 + 16 + 28 * 14 + 28 * 3 = 506 calls, of the 512 that an object is used for. */
    private static void use(BellTelegraph x) {
        for (int k = 0; k < 6; k++) {
            x.convent(k, 9 - k, k + 1);
        }
        for (int sign = 1; sign <= 8; sign++) {
            x.code(sign, sign + 3);
        }
        for (int k = 0; k < 16; k++) {
            x.send(k % 6, (k + 3) % 6, 12345678);
        }
        for (int k = 0; k < 28; k++) {
            Given.carryOut(x, "h1;e1=3");
            x.ranked(0);
            x.arrivesIn(x.ranked(0));
            x.undo();
            x.line(0);
            x.save();
        }
        for (int k = 0; k < 28; k++) {
            x.restore();
            x.hours(96);
            x.windIn(0, 200);
        }
    }

    private void count(Object object) throws IllegalAccessException {
        if (object == null || !seen.add(object)) {
            return;
        }
        Class<?> kind = object.getClass();
        if (kind.isArray()) {
            elements += Array.getLength(object);
            for (int k = 0; !kind.getComponentType().isPrimitive() && k < Array.getLength(object); k++) {
                count(Array.get(object, k));
            }
            return;
        }
        for (Field field : kind.getDeclaredFields()) {
            if (!Modifier.isStatic(field.getModifiers())) {
                elements++;
                field.setAccessible(true);
                if (!field.getType().isPrimitive()) {
                    count(field.get(object));
                }
            }
        }
    }
}
