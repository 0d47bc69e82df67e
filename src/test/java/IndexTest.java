import java.lang.reflect.Array;
import java.lang.reflect.Field;
import java.util.NoSuchElementException;
import java.util.Set;

/**
 * Each number that is kept in a row is looked at ahead of its use as an index: with odd numbers written into the rows,
 * which no call can do, every call still throws nothing but what the class throws by itself.
 */
public final class IndexTest {
    private interface Use {
        Object of();
    }

    private static final int[] ODD = {Integer.MIN_VALUE, -1, 6, 8, 9, 16, 17, 151, Integer.MAX_VALUE};
    private static final Set<Class<?>> OWN = Set.of(IllegalStateException.class, IllegalArgumentException.class,
        IndexOutOfBoundsException.class, ArithmeticException.class, UnsupportedOperationException.class,
        NoSuchElementException.class);

    public static void main(String[] args) throws ReflectiveOperationException {
        for (int odd : ODD) {
            for (int first = 0; first < 16; first += 5) {
                use("messages that wait, " + odd, spoiledRow("convents", "queue", first, odd));
                use("signs, " + odd, spoiledRow("messages", "signs", first, odd));
            }
            for (String field : new String[] {"from", "to", "at"}) {
                use("the convent " + field + ", " + odd, spoiledField(field, odd));
            }
        }
        Due.end("IndexTest");
    }

    /** From the first place on, the row of each convent or message holds the odd number. */
    private static BellTelegraph spoiledRow(String rows, String row, int first, int odd)
            throws ReflectiveOperationException {
        BellTelegraph x = Given.full();
        for (Object one : (Object[]) kept(kept(x, "now"), rows)) {
            Object numbers = kept(one, row);
            for (int k = first; k < Array.getLength(numbers); k++) {
                Array.setInt(numbers, k, odd);
            }
        }
        return x;
    }

    private static BellTelegraph spoiledField(String field, int odd) throws ReflectiveOperationException {
        BellTelegraph x = Given.full();
        for (Object message : (Object[]) kept(kept(x, "now"), "messages")) {
            opened(message, field).setInt(message, odd);
        }
        return x;
    }

    private static Object kept(Object owner, String field) throws ReflectiveOperationException {
        return opened(owner, field).get(owner);
    }

    private static Field opened(Object owner, String field) throws ReflectiveOperationException {
        Field found = owner.getClass().getDeclaredField(field);
        found.setAccessible(true);
        return found;
    }

    /** 30 calls to make it, and 3 + 16 * 16 + 5 * 6 = 289 calls here, of the 512 that an object is used for. */
    private static void use(String what, BellTelegraph x) {
        call(what, x::save);
        for (int k = 0; k < 16; k++) {
            int message = k;
            call(what, () -> x.arrivesIn(message));
            call(what, () -> x.wouldLose(message));
            call(what, () -> x.line(message));
            call(what, () -> x.signs(message));
            call(what, () -> x.ranked(message));
            call(what, () -> x.hours(message + 1));
            call(what, () -> x.sign(message, 0));
            call(what, () -> x.arrived(message));
            call(what, () -> x.waiting(message % 6, 0));
            call(what, () -> x.send(message % 6, (message + 1) % 6, 12345678));
            call(what, () -> x.drop(message));
            call(what, x::undo);
            call(what, () -> x.append('d'));
            call(what, () -> x.append((char) ('0' + message % 10)));
            call(what, x::commands);
            call(what, () -> x.hours(96));
        }
        for (int k = 0; k < 6; k++) {
            int convent = k;
            call(what, () -> x.strength(convent, true));
            call(what, () -> x.hears(convent, false));
            call(what, () -> x.silence(convent, 0, 0));
            call(what, () -> x.ear(convent, 0));
            call(what, () -> x.conventOf(convent, 4));
        }
        call(what, x::restore);
        call(what, () -> x.hours(96));
    }

    private static void call(String what, Use use) {
        Class<?> thrown = IllegalStateException.class;
        try {
            use.of();
        } catch (RuntimeException e) {
            thrown = e.getClass();
        }
        Due.isTrue(what + ": " + thrown.getName() + " is the class's own", OWN.contains(thrown));
    }
}
