import com.sun.management.ThreadMXBean;
import java.lang.management.ManagementFactory;
import java.lang.reflect.Array;
import java.lang.reflect.Field;
import java.lang.reflect.Modifier;
import java.util.ArrayDeque;
import java.util.Deque;
import java.util.IdentityHashMap;
import java.util.Map;

/** All calls of a run live in one room: an object is small, and no call makes anything. */
final class RoomTest {
    private static final Check check = new Check("RoomTest");
    private static final int MOST_OBJECTS = 100;
    private static final int MOST_ELEMENTS = 50_000;

    public static void main(String[] args) throws ReflectiveOperationException {
        dearestCalls(new ExternalSort(512, 16));
        ThreadMXBean threads = (ThreadMXBean) ManagementFactory.getThreadMXBean();
        ExternalSort x = new ExternalSort(512, 16);
        threads.getCurrentThreadAllocatedBytes();
        long before = threads.getCurrentThreadAllocatedBytes();
        dearestCalls(x);
        long made = threads.getCurrentThreadAllocatedBytes() - before;
        check.that("the calls made " + made + " bytes of objects", made < 1024);
        check.that("the joins and sorts did not fill the disk", x.size(1) > 3000 && x.told(3) > 1);
        countRoom(x);
        check.end();
    }

    private static void dearestCalls(ExternalSort x) {
        for (int i = 0; i < 56; i++) {
            x.append(0, 0, (i * 37) % 56);
        }
        x.join(0, 0, 1, 16);
        for (int call = 57; call < 512; call++) {
            x.sort(1, 1, 3, call % 3);
            x.distinct(1, 1, 4);
            x.join(0, 0, 1, 16);
        }
        x.sort(1, 1, 3, 2);
    }

    private static void countRoom(Object root) throws ReflectiveOperationException {
        Map<Object, Boolean> seen = new IdentityHashMap<>();
        Deque<Object> open = new ArrayDeque<>();
        open.add(root);
        seen.put(root, true);
        long elements = 0;
        while (!open.isEmpty()) {
            Object one = open.remove();
            if (one.getClass().isArray()) {
                elements += Array.getLength(one);
                continue;
            }
            for (Field field : one.getClass().getDeclaredFields()) {
                if (Modifier.isStatic(field.getModifiers())) {
                    continue;
                }
                elements++;
                field.setAccessible(true);
                Object next = field.getType().isPrimitive() ? null : field.get(one);
                if (next != null && seen.put(next, true) == null) {
                    open.add(next);
                }
            }
        }
        System.out.println("RoomTest: the largest disk has " + seen.size() + " objects with " + elements + " elements");
        check.that("too many objects", seen.size() <= MOST_OBJECTS);
        check.that("too many elements", elements <= MOST_ELEMENTS);
    }
}
