import com.sun.management.ThreadMXBean;
import java.lang.management.ManagementFactory;
import java.lang.reflect.Array;
import java.lang.reflect.Field;
import java.lang.reflect.Modifier;
import java.util.ArrayDeque;
import java.util.Collections;
import java.util.Deque;
import java.util.IdentityHashMap;
import java.util.Set;

/** All calls of a run live in one room: an object has little, and a call makes next to nothing. */
public final class RoomTest {
    private static final Check CHECK = new Check("RoomTest");
    private static final int CALLS = 512;
    // one run may have 600,000 objects and arrays, 7,300,000 fields and elements: a hundredth of it here
    private static final int OBJECTS = 6_000;
    private static final int ELEMENTS = 73_000;
    // a text of a row, or what the test itself makes to feed a text; a copied row of numbers would be more
    private static final int BYTES_OF_CALL = 600;

    private static int objects = 0;
    private static int elements = 0;

    public static void main(String[] args) throws IllegalAccessException {
        dueFew("a new object", new OuterRows());
        dueFew("all that there is room for, kept, with SUBSCRIBERS", fullest());
        for (int call = 0; call < Calls.COUNT; call++) {
            dueLittleMade(call);
        }
        CHECK.end();
    }

    private static OuterRows fullest() {
        OuterRows x = Full.ofRows();
        for (int who = 0; who < 4; who++) {
            x.begin(who);
        }
        x.event(0, 0, 0, 1, 5);
        x.pull(0);
        x.keep();
        return x;
    }

    private static void dueFew(String what, OuterRows x) throws IllegalAccessException {
        objects = 0;
        elements = 0;
        count(x);
        CHECK.due(what + " is counted", objects > 1 && elements > 900, true);
        CHECK.due(what + ": " + objects + " objects and arrays are few", objects <= OBJECTS, true);
        CHECK.due(what + ": " + elements + " fields and elements are few", elements <= ELEMENTS, true);
    }

    private static void count(Object first) throws IllegalAccessException {
        Set<Object> seen = Collections.newSetFromMap(new IdentityHashMap<>());
        Deque<Object> open = new ArrayDeque<>();
        open.add(first);
        while (!open.isEmpty()) {
            Object o = open.remove();
            if (!seen.add(o)) {
                continue;
            }
            objects++;
            if (o.getClass().isArray()) {
                countArray(o, open);
            } else {
                countFields(o, open);
            }
        }
    }

    private static void countArray(Object array, Deque<Object> open) {
        int length = Array.getLength(array);
        elements += length;
        if (array instanceof Object[] parts) {
            for (Object part : parts) {
                addPart(part, open);
            }
        }
    }

    private static void countFields(Object o, Deque<Object> open) throws IllegalAccessException {
        for (Field f : o.getClass().getDeclaredFields()) {
            if (Modifier.isStatic(f.getModifiers())) {
                continue;
            }
            elements++;
            if (!f.getType().isPrimitive()) {
                f.setAccessible(true);
                addPart(f.get(o), open);
            }
        }
    }

    private static void addPart(Object part, Deque<Object> open) {
        if (part != null) {
            open.add(part);
        }
    }

    private static void dueLittleMade(int call) {
        OuterRows x = fullest();
        ThreadMXBean threads = (ThreadMXBean) ManagementFactory.getThreadMXBean();
        long thread = Thread.currentThread().getId();
        // once ahead, so that classes that are loaded then aren't counted
        Calls.sound(x, call);
        threads.getThreadAllocatedBytes(thread);
        long before = threads.getThreadAllocatedBytes(thread);
        for (int i = 0; i < CALLS; i++) {
            Calls.sound(x, call);
        }
        long made = (threads.getThreadAllocatedBytes(thread) - before) / CALLS;
        CHECK.due(Calls.NAMES[call] + " makes " + made + " bytes a call: little", made <= BYTES_OF_CALL, true);
    }
}
