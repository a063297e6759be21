import java.lang.management.ManagementFactory;
import java.lang.management.ThreadMXBean;
import java.lang.reflect.Array;
import java.lang.reflect.Field;
import java.lang.reflect.Modifier;
import java.util.ArrayDeque;
import java.util.Collections;
import java.util.IdentityHashMap;
import java.util.Set;

/**
 * What an object takes of the room that all calls of a run live in: a small
 * part when it is made, and nothing more by its calls.
 */
public final class RoomTest {
    private static final int MOST_OBJECTS = 1000;
    private static final int MOST_FIELDS = 20000;
    // Far below one object a call; it leaves room for what the machine may make when it first runs a line.
    private static final int MOST_BYTES = 4096;

    private static final Due due = new Due();
    // Kept, as asking for it makes objects, too.
    private static final ThreadMXBean threads = ManagementFactory.getThreadMXBean();

    public static void main(String[] args) throws IllegalAccessException {
        FaultHeaps x = new FaultHeaps();
        Set<Object> made = held(x);
        due.yes("a new object holds " + made.size() + " objects and arrays", made.size() < MOST_OBJECTS);
        long fields = fieldsOf(made);
        due.yes("a new object holds " + fields + " fields and elements", fields < MOST_FIELDS);
        use(new FaultHeaps());
        long ahead = bytesMade();
        int calls = use(x);
        long more = bytesMade() - ahead;
        due.same("calls of a run", calls, 512);
        due.yes("512 calls make " + more + " bytes", more < MOST_BYTES);
        due.yes("the same objects are held behind them", held(x).equals(made));
        due.end("RoomTest");
    }

    private static long bytesMade() {
        if (threads instanceof com.sun.management.ThreadMXBean counted) {
            return counted.getCurrentThreadAllocatedBytes();
        }
        return 0;
    }

    /** 512 calls that fill the object and settle it again and again. */
    private static int use(FaultHeaps x) {
        int calls = 0;
        for (int v = 1; v <= 29; v++) {
            x.version(v / 2);
            calls++;
        }
        for (int r = 0; r < 40; r++) {
            for (int k = 0; k < 5; k++) {
                x.frame((7 * r + k * k * r) % 11);
                calls++;
            }
            x.report(r % 30);
            calls++;
        }
        for (int k = 0; k < 27; k++) {
            calls += askAndChange(x, k);
        }
        for (int k = calls; k < 512; k++) {
            x.count(7);
            calls++;
        }
        return calls;
    }

    private static int askAndChange(FaultHeaps x, int k) {
        x.pair(k, 39 - k, k % 3 == 0);
        x.mark(k);
        x.resettle();
        x.free(k, 39 - k);
        x.sign(k);
        x.fix(k, k);
        x.look(k, k % 5);
        x.cost(k, FaultHeaps.NONE);
        return 8;
    }

    /** All objects and arrays that can be reached from one. */
    private static Set<Object> held(Object first) throws IllegalAccessException {
        Set<Object> found = Collections.newSetFromMap(new IdentityHashMap<>());
        ArrayDeque<Object> open = new ArrayDeque<>();
        open.add(first);
        while (!open.isEmpty()) {
            Object one = open.poll();
            if (found.add(one)) {
                addPartsOf(one, open);
            }
        }
        return found;
    }

    private static void addPartsOf(Object one, ArrayDeque<Object> open) throws IllegalAccessException {
        if (one instanceof Object[] rows) {
            Collections.addAll(open, rows);
        } else if (!one.getClass().isArray()) {
            for (Field f : one.getClass().getDeclaredFields()) {
                if (!Modifier.isStatic(f.getModifiers()) && !f.getType().isPrimitive()) {
                    f.setAccessible(true);
                    open.add(f.get(one));
                }
            }
        }
    }

    private static long fieldsOf(Set<Object> all) {
        long fields = 0;
        for (Object one : all) {
            fields += one.getClass().isArray() ? Array.getLength(one) : one.getClass().getDeclaredFields().length;
        }
        return fields;
    }
}
