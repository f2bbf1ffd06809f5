import com.sun.management.ThreadMXBean;
import java.lang.management.ManagementFactory;
import java.lang.reflect.Array;
import java.lang.reflect.Field;
import java.lang.reflect.Modifier;
import java.util.ArrayList;
import java.util.Collections;
import java.util.IdentityHashMap;
import java.util.List;
import java.util.Set;

/**
 * All calls of one run live in one room, of some 600,000 objects and arrays with 7.3 million fields
 * and elements: an object takes a small part of it when it is made, and its calls take none.
 */
public final class RoomTest {
    private static final int MOST_OBJECTS = 1000;
    private static final int MOST_ELEMENTS = 10000;
    private static final int ROUNDS = 2000;
    /** For what the machine itself may make now and then; one object a round would be ten times as much. */
    private static final long BYTES_THAT_DO_NOT_COUNT = 3000;

    private static final Checks CHECKS = new Checks("RoomTest");
    private static final ThreadMXBean THREADS = (ThreadMXBean) ManagementFactory.getThreadMXBean();

    private int objects = 0;
    private int elements = 0;

    public static void main(String[] args) throws IllegalAccessException {
        AlexanderMatrix x = Diagrams.of(Diagrams.braid(3, Diagrams.power(6, 1, -2)), 0);
        RoomTest fresh = new RoomTest();
        fresh.count(new AlexanderMatrix());
        CHECKS.due("objects and arrays: " + fresh.objects, fresh.objects <= MOST_OBJECTS, true);
        CHECKS.due("fields and elements: " + fresh.elements, fresh.elements <= MOST_ELEMENTS, true);
        callsTakeNone(x);
        RoomTest used = new RoomTest();
        used.count(x);
        CHECKS.due("objects and arrays after the calls", used.objects, fresh.objects);
        CHECKS.due("fields and elements after the calls", used.elements, fresh.elements);
        CHECKS.end();
    }

    private static void callsTakeNone(AlexanderMatrix x) {
        int[][] rows = Diagrams.braid(3, Diagrams.power(6, 1, -2));
        long sum = 0;
        for (int i = 0; i < ROUNDS; i++) {
            sum += everyCall(x, rows, i);
        }
        long before = THREADS.getCurrentThreadAllocatedBytes();
        for (int i = 0; i < ROUNDS; i++) {
            sum += everyCall(x, rows, i);
        }
        long bytes = THREADS.getCurrentThreadAllocatedBytes() - before;
        CHECKS.due("bytes that " + ROUNDS + " rounds took: " + bytes, bytes <= BYTES_THAT_DO_NOT_COUNT, true);
        CHECKS.due("the rounds answered something", sum != 0, true);
    }

    private static long everyCall(AlexanderMatrix x, int[][] rows, int i) {
        long sum = 0;
        for (int[] c : rows) {
            sum += x.crossing(c[0], c[1], c[2], c[3], c[4]);
        }
        sum += x.check(i % 3 - 1) + x.many(i % 7) + x.arc(i % 30) + x.least(i % 13) + x.entry(i % 12, i % 11, i % 2);
        sum += x.minor(i % 13 - 1, i % 11, i % 12) + x.alexander(i % 12) + x.rank(i, 97) + x.rank(i, 98);
        return sum + (x.change(i % 13) ? 1 : 0) + x.many(5) + (x.smooth(i % 13) ? 1 : 0) + x.many(4);
    }

    private void count(Object start) throws IllegalAccessException {
        Set<Object> found = Collections.newSetFromMap(new IdentityHashMap<>());
        List<Object> open = new ArrayList<>(List.of(start));
        while (!open.isEmpty()) {
            Object next = open.remove(open.size() - 1);
            if (next != null && found.add(next)) {
                objects++;
                if (next.getClass().isArray()) {
                    elementsOf(next, open);
                } else {
                    fieldsOf(next, open);
                }
            }
        }
    }

    private void elementsOf(Object array, List<Object> open) {
        int length = Array.getLength(array);
        elements += length;
        boolean numbers = array.getClass().getComponentType().isPrimitive();
        for (int i = 0; !numbers && i < length; i++) {
            open.add(Array.get(array, i));
        }
    }

    private void fieldsOf(Object object, List<Object> open) throws IllegalAccessException {
        for (Field field : object.getClass().getDeclaredFields()) {
            if (!Modifier.isStatic(field.getModifiers())) {
                elements++;
                field.setAccessible(true);
                if (!field.getType().isPrimitive()) {
                    open.add(field.get(object));
                }
            }
        }
    }
}
