import com.sun.management.ThreadMXBean;
import java.lang.management.ManagementFactory;
import java.lang.reflect.Array;
import java.lang.reflect.Field;
import java.lang.reflect.Modifier;
import java.util.ArrayDeque;
import java.util.Collections;
import java.util.Deque;
import java.util.IdentityHashMap;
import java.util.Set;

/** What an object holds is made by its constructor; its calls make nothing, and none of them grows it. */
public final class MemoryTest {
    /** Of the 600,000 objects and 7.3 million fields and elements that all calls of one run share. */
    private static final int MOST_OBJECTS = 1000;
    private static final int MOST_CELLS = 10000;
    private static final int CALLS = 512;
    private static final int TRIES = 20;

    private static final ThreadMXBean MACHINE = (ThreadMXBean) ManagementFactory.getThreadMXBean();
    private static int objects;
    private static int cells;
    private static long answers;

    public static void main(String[] args) throws IllegalAccessException {
        holdsLittle();
        callsMakeNothing();
        Check.end();
    }

    private static void holdsLittle() throws IllegalAccessException {
        SeamBeats x = new SeamBeats();
        measure(x);
        int objectsAtFirst = objects;
        int cellsAtFirst = cells;
        Check.dueTrue("a new object holds " + objects + " objects", objects <= MOST_OBJECTS);
        Check.dueTrue("a new object holds " + cells + " fields and elements", cells <= MOST_CELLS);
        manyCalls(x);
        measure(x);
        Check.due("objects after many calls", objects, objectsAtFirst);
        Check.due("fields and elements after many calls", cells, cellsAtFirst);
    }

    /** Counts all objects and arrays that can be reached, with their fields and elements. */
    private static void measure(Object first) throws IllegalAccessException {
        objects = 0;
        cells = 0;
        Set<Object> seen = Collections.newSetFromMap(new IdentityHashMap<>());
        Deque<Object> open = new ArrayDeque<>();
        seen.add(first);
        open.add(first);
        while (!open.isEmpty()) {
            Object one = open.remove();
            objects++;
            if (one.getClass().isArray()) {
                for (int i = 0; i < Array.getLength(one); i++) {
                    cells++;
                    reach(one.getClass().getComponentType(), Array.get(one, i), seen, open);
                }
                continue;
            }
            for (Field field : one.getClass().getDeclaredFields()) {
                if (!Modifier.isStatic(field.getModifiers())) {
                    cells++;
                    field.setAccessible(true);
                    reach(field.getType(), field.get(one), seen, open);
                }
            }
        }
    }

    private static void reach(Class<?> type, Object value, Set<Object> seen, Deque<Object> open) {
        if (!type.isPrimitive() && value != null && seen.add(value)) {
            open.add(value);
        }
    }

    /** The first tries make the machine load what it needs; the calls alone must come to nothing in one of them. */
    private static void callsMakeNothing() {
        if (!MACHINE.isThreadAllocatedMemorySupported()) {
            return;
        }
        MACHINE.setThreadAllocatedMemoryEnabled(true);
        long least = Long.MAX_VALUE;
        for (int i = 0; i < TRIES; i++) {
            SeamBeats x = new SeamBeats();
            long before = MACHINE.getCurrentThreadAllocatedBytes();
            manyCalls(x);
            least = Math.min(least, MACHINE.getCurrentThreadAllocatedBytes() - before);
        }
        Check.due("bytes that the calls make", least, 0);
    }

    /** All 23 calls, none of them refused, again and again. */
    private static void manyCalls(SeamBeats x) {
        int calls = 0;
        while (calls < CALLS - 40) {
            int from = calls % 5;
            if (x.count(1) < 8) {
                answers += x.seam(from, 5, 1 + from, 1 + from % 3);
            }
            answers += x.beat(from, 1 + from % 4, 0) + x.wake(from, true) + x.route(from, SeamBeats.NONE);
            answers += x.put(from, from) + x.append('5') + x.append('=') + x.append('1') + x.firstError();
            answers += x.putAll() + x.append('5') + x.clearBuffer() + x.run(30);
            answers += x.lose(from, 1) + x.run(9) + x.room(from, 6) + x.queue(from, 0, 0) + x.seamOf(0, 4);
            answers += x.onSeam(0, 0, 0) + x.count(9) + x.ifRun(9, 1) + x.outIn(0) + x.bestPhase(from);
            answers += x.slowest() + (long) x.outShare() + x.digest() + x.put(5, 1) + x.undo();
            calls += 30;
        }
    }
}
