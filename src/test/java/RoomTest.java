import java.lang.reflect.Array;
import java.lang.reflect.Field;
import java.lang.reflect.Modifier;
import java.util.ArrayDeque;
import java.util.Collections;
import java.util.Deque;
import java.util.IdentityHashMap;
import java.util.Set;

/** What an object holds is small, and is made by the constructor alone. */
public final class RoomTest {
    // A run whose every one of 512 calls made an object would still stay in the room.
    private static final long MOST_OBJECTS = 600_000 / 512;
    private static final long MOST_ELEMENTS = 7_300_000 / 512;
    private static final int CALLS = 512;
    private static final int LEAST_OBJECT = 16;

    public static void main(String[] args) throws IllegalAccessException {
        Check check = new Check();
        StreamCounts counts = new StreamCounts();
        Set<Object> first = held(counts);
        check.isTrue("objects " + first.size(), first.size() <= MOST_OBJECTS);
        check.isTrue("elements " + elements(first), elements(first) <= MOST_ELEMENTS);
        for (int s = 0; s < 3; s++) {
            counts.begin(s, 64, 16, 1, 7L);
        }
        allocated(); // the meter makes objects of its own when it is first read
        long before = allocated();
        for (int i = 0; i < CALLS; i++) {
            call(counts, i);
        }
        check.isTrue("calls make nothing", allocated() - before < CALLS * LEAST_OBJECT);
        Set<Object> last = held(counts);
        check.isTrue("the same objects", last.size() == first.size() && first.containsAll(last));
        check.end();
    }

    private static void call(StreamCounts counts, int i) {
        int s = i % 3, a = i % 64, b = i * 7 % 64;
        counts.add(s, a, b);
        counts.take(s, b, a);
        counts.merge(s, (s + 1) % 3);
        counts.told(s, i % 9);
        counts.span(s, a, i % 2);
        counts.slot(s, i % 16, i % 2);
        counts.parts(s, i);
        counts.part(s, i, a);
        counts.tree(s, i % 8, i % 3);
        counts.since(s, a, b);
        counts.far(s, a, b);
        counts.kept(s, i % 8, i % 3);
        counts.mate(s, a);
        counts.sum(s, a, i % 10, i % 3);
        counts.out(s, 1L << a);
        counts.level();
        counts.same(s, (s + 1) % 3);
    }

    private static long allocated() {
        com.sun.management.ThreadMXBean bean =
            (com.sun.management.ThreadMXBean) java.lang.management.ManagementFactory.getThreadMXBean();
        return bean.getThreadAllocatedBytes(Thread.currentThread().getId());
    }

    private static Set<Object> held(Object root) throws IllegalAccessException {
        Set<Object> found = Collections.newSetFromMap(new IdentityHashMap<>());
        Deque<Object> open = new ArrayDeque<>();
        open.add(root);
        while (!open.isEmpty()) {
            Object at = open.remove();
            if (!found.add(at)) {
                continue;
            }
            if (at instanceof Object[] row) {
                for (Object element : row) {
                    open.add(element);
                }
            } else if (!at.getClass().isArray()) {
                addFields(at, open);
            }
        }
        return found;
    }

    private static void addFields(Object at, Deque<Object> open) throws IllegalAccessException {
        for (Field field : at.getClass().getDeclaredFields()) {
            if (!Modifier.isStatic(field.getModifiers()) && !field.getType().isPrimitive()) {
                field.setAccessible(true);
                open.add(field.get(at));
            }
        }
    }

    private static long elements(Set<Object> objects) {
        long all = 0;
        for (Object at : objects) {
            all += at.getClass().isArray() ? Array.getLength(at) : at.getClass().getDeclaredFields().length;
        }
        return all;
    }
}
