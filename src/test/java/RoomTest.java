import java.lang.management.ManagementFactory;
import java.lang.reflect.Array;
import java.lang.reflect.Field;
import java.lang.reflect.Modifier;
import java.util.ArrayDeque;
import java.util.Collections;
import java.util.Deque;
import java.util.IdentityHashMap;
import java.util.Set;

/** What an object holds is made with it and stays small, and the dearest calls make nothing and end soon. */
public final class RoomTest {
    private static final int ELEMENTS_MOST = 300_000;
    private static final int OBJECTS_MOST = 100;
    private static final long BYTES_MOST = 20_000;

    public static void main(String[] args) throws IllegalAccessException {
        Check check = new Check("RoomTest");
        DoorLister lister = dear();
        long[] before = room(lister);
        check.due("objects " + before[0], before[0] <= OBJECTS_MOST, true);
        check.due("fields and elements " + before[1], before[1] <= ELEMENTS_MOST, true);
        long bytes = allocated();
        int calls = 0;
        for (int i = 0; i < 80; i++) {
            lister.change(i % 4, 23, Kinds.GO, 0, 0, i % 20);
            calls += lister.shut(15, i % 8);
            calls += lister.way(i % 4, 0, i % 32, 31 - i % 32, i);
            lister.feed(i, i, i, i, i);
            calls += lister.run(i % 4, 20);
        }
        bytes = allocated() - bytes;
        check.due("bytes made by calls " + bytes, bytes <= BYTES_MOST, true);
        long[] after = room(lister);
        check.due("objects stay", after[0], before[0]);
        check.due("elements stay", after[1], before[1]);
        check.due("calls were made", calls > 0, true);
        check.end();
    }

    /** Programs that come to most states there are, and ten effects that all may be cut. */
    private static DoorLister dear() {
        DoorLister lister = new DoorLister();
        for (int p = 0; p < 4; p++) {
            Kinds.write(lister, p, Kinds.row(Kinds.READ, 1), Kinds.row(Kinds.COPY, 0), Kinds.row(Kinds.READ, 0),
                    Kinds.row(Kinds.IF, 1, 9, 5), Kinds.row(Kinds.POINT));
            for (int i = 5; i < 24; i++) {
                lister.code(p, i % 3 == 0 ? Kinds.CALL : Kinds.ADD, i % 2, i, 0);
            }
        }
        for (int e = 0; e < 10; e++) {
            lister.effect(e % 3, e, 31 - e, e < 5 ? 0 : 1 << e - 5, 255 >> e % 8);
        }
        return lister;
    }

    private static long allocated() {
        com.sun.management.ThreadMXBean threads = (com.sun.management.ThreadMXBean) ManagementFactory.getThreadMXBean();
        return threads.getThreadAllocatedBytes(Thread.currentThread().getId());
    }

    private static long[] room(Object start) throws IllegalAccessException {
        Set<Object> been = Collections.newSetFromMap(new IdentityHashMap<>());
        Deque<Object> rest = new ArrayDeque<>();
        long elements = 0;
        rest.add(start);
        been.add(start);
        while (!rest.isEmpty()) {
            Object object = rest.remove();
            if (object.getClass().isArray()) {
                elements += Array.getLength(object);
                for (int i = 0; object instanceof Object[] && i < Array.getLength(object); i++) {
                    enter(Array.get(object, i), been, rest);
                }
                continue;
            }
            for (Field field : object.getClass().getDeclaredFields()) {
                if (!Modifier.isStatic(field.getModifiers())) {
                    elements++;
                    field.setAccessible(true);
                    if (!field.getType().isPrimitive()) {
                        enter(field.get(object), been, rest);
                    }
                }
            }
        }
        return new long[] {been.size(), elements};
    }

    private static void enter(Object object, Set<Object> been, Deque<Object> rest) {
        if (object != null && been.add(object)) {
            rest.add(object);
        }
    }
}
