import java.lang.management.ManagementFactory;
import java.lang.reflect.Array;
import java.lang.reflect.Field;
import java.lang.reflect.Modifier;
import java.util.ArrayDeque;
import java.util.Collections;
import java.util.Deque;
import java.util.IdentityHashMap;
import java.util.Set;

/** A run lives in one room: an object is small, and of its calls only those that throw make anything. */
public final class RoomTest extends Bench {
    private static final int MOST_OBJECTS = 100;
    private static final int MOST_ELEMENTS = 2000;
    private static final int ROUNDS = 10000;

    private RoomTest() {
        super("RoomTest");
    }

    public static void main(String[] args) throws IllegalAccessException {
        RoomTest test = new RoomTest();
        test.sizeOfAnObject();
        test.whatCallsMake();
        test.due.end();
    }

    private void sizeOfAnObject() throws IllegalAccessException {
        Set<Object> seen = Collections.newSetFromMap(new IdentityHashMap<>());
        Deque<Object> open = new ArrayDeque<>();
        open.add(new MovedRegisters());
        int elements = 0;
        while (!open.isEmpty()) {
            Object object = open.pop();
            if (seen.add(object)) {
                elements += object.getClass().isArray() ? lookInRow(object, open) : lookInFields(object, open);
            }
        }
        int all = elements;
        System.out.println("an object is " + seen.size() + " objects and rows with " + all + " fields and elements");
        due.isTrue("few objects", seen.size() <= MOST_OBJECTS);
        due.isTrue("few elements", all <= MOST_ELEMENTS);
    }

    private static int lookInRow(Object row, Deque<Object> open) {
        int length = Array.getLength(row);
        for (int i = 0; i < length && !row.getClass().getComponentType().isPrimitive(); i++) {
            open.add(Array.get(row, i));
        }
        return length;
    }

    private static int lookInFields(Object object, Deque<Object> open) throws IllegalAccessException {
        int count = 0;
        for (Field field : object.getClass().getDeclaredFields()) {
            if (!Modifier.isStatic(field.getModifiers())) {
                field.setAccessible(true);
                count++;
                if (!field.getType().isPrimitive()) {
                    open.add(field.get(object));
                }
            }
        }
        return count;
    }

    /** Over many rounds even one small object a round would be seen; what so many calls answer is not looked at. */
    private void whatCallsMake() {
        if (!(ManagementFactory.getThreadMXBean() instanceof com.sun.management.ThreadMXBean counter)) {
            return;
        }
        MovedRegisters x = row(11, ODD);
        x.gate(SAME, 1);
        long thread = Thread.currentThread().getId();
        everyCall(x);
        long before = counter.getThreadAllocatedBytes(thread);
        for (int round = 0; round < ROUNDS; round++) {
            everyCall(x);
        }
        long made = counter.getThreadAllocatedBytes(thread) - before;
        due.isTrue(made + " bytes in " + ROUNDS + " rounds", made < ROUNDS);
    }

    private static void everyCall(MovedRegisters x) {
        x.wire(12, 12, 0, 1);
        x.wire(11, -1, 0, 4);
        x.hold(-1, 0, 3, 1);
        x.hold(12, 0, 0, 1);
        x.retime(x.period());
        x.retime(x.least());
        x.restart();
        x.tick(0, 1, 2);
        x.weight(1, 11);
        x.delay(1, 11);
        x.shared();
        x.sound();
        x.gates();
        x.label(12);
        x.held(12, 0, 0);
        x.registers(1, 0);
    }
}
