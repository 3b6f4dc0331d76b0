import java.lang.management.ManagementFactory;
import java.lang.reflect.Array;
import java.lang.reflect.Field;
import java.lang.reflect.Modifier;
import java.util.IdentityHashMap;
import java.util.Map;

/** All calls of one run live in one room: a new object is small, and no call makes anything. */
public final class RoomTest {
    private static long objects = 0;
    private static long elements = 0;

    public static void main(String[] args) throws IllegalAccessException {
        Due due = new Due("RoomTest");
        CableCars x = busy();
        countAll(x, new IdentityHashMap<>());
        System.out.println("RoomTest: an object holds " + objects + " objects and arrays, " + elements + " fields and elements");
        due.holds("an object holds few objects", objects < 200);
        due.holds("an object holds few elements", elements < 4000);

        com.sun.management.ThreadMXBean bean = (com.sun.management.ThreadMXBean) ManagementFactory.getThreadMXBean();
        long id = Thread.currentThread().getId();
        useAll(x);
        bean.getThreadAllocatedBytes(id);
        long before = bean.getThreadAllocatedBytes(id);
        long sum = 0;
        for (int i = 0; i < 40; i++) {
            sum += useAll(x);
        }
        long made = bean.getThreadAllocatedBytes(id) - before;
        due.holds("forty rounds of all calls made " + made + " bytes (" + sum + ")", made < 10000);
        due.end();
    }

    private static CableCars busy() {
        CableCars x = Due.told("bo6;fs4;jg7;no5;rs9;vg3", "ab7;at8;bb4;ct9;db6;et2;gb9;ht5;jb3;lt7;nb8;pt1", "231302123312033");
        for (int i = 0; i < 8; i++) {
            x.event(i % 3, 2 * i, i % 6);
        }
        x.seen(0, 0, 7);
        return x;
    }

    private static long useAll(CableCars x) {
        long sum = x.digest() + x.chance(3, 23, 0) + x.spare(1) + x.never() + x.years(3, 24, 1);
        sum += x.undo(0) + x.type(0, '3') + x.undo(1) + x.type(1, '1') + x.undo(2) + x.type(2, '3') + x.back() + x.event(1, 14, 1);
        sum += x.sheet(0, 2, 60) + x.write(0, 0) + x.copy(0, 0, 0, 5, 10) + x.put(0, 2, 3, 4) + x.get(0, 2, 3) + x.read(0);
        sum += x.lose(0) + x.forget() + x.seen(1, 1, 3) + x.wipe(2) + x.type(2, '2') + x.type(2, '3');
        for (int car = 0; car < 6; car++) {
            sum += x.hang(car, 0) + x.was(car, 0) + x.was(car, 1) + x.ask(car) + x.at(23, car, 1) + x.carried(car);
        }
        return sum;
    }

    private static void countAll(Object o, Map<Object, Boolean> met) throws IllegalAccessException {
        if (o == null || o instanceof String || met.put(o, true) != null) {
            return;
        }
        objects++;
        if (o.getClass().isArray()) {
            elements += Array.getLength(o);
            for (int i = 0; i < Array.getLength(o) && !o.getClass().getComponentType().isPrimitive(); i++) {
                countAll(Array.get(o, i), met);
            }
            return;
        }
        for (Field f : o.getClass().getDeclaredFields()) {
            if (!Modifier.isStatic(f.getModifiers())) {
                elements++;
                f.setAccessible(true);
                if (!f.getType().isPrimitive()) {
                    countAll(f.get(o), met);
                }
            }
        }
    }
}
