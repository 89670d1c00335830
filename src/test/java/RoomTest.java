import com.sun.management.ThreadMXBean;
import java.lang.management.ManagementFactory;
import java.lang.reflect.Array;
import java.lang.reflect.Field;
import java.lang.reflect.Modifier;
import java.util.ArrayList;
import java.util.Collections;
import java.util.IdentityHashMap;
import java.util.List;
import java.util.Set;

/** What an object has, behind calls of all kinds, is little; and calls make nothing more. */
public final class RoomTest {
    private static final int MOST_OBJECTS = 300;
    private static final int MOST_ELEMENTS = 30_000;
    private static final int CALLS = 512;
    private static final String LAND = "fly 11;full 1;house 14 level 1 stock 50 thirst 819;"
            + "house 16 level 1 stock 91 thirst 5;house 9 level 1 stock 30;house 17 level 2;"
            + "rope 3 0 long 5 stones 3 1;rope 0 2 long 7 at 3 stones 2 0;rope 2 1 long 6 stones 1 2;";
    private static int wrong = 0;
    /** Keeps the calls' answers in use, so that no call is left out. */
    private static long answers = 0;

    public static void main(String[] args) throws Exception {
        lookAtObject(new TwoWells());
        TwoWells used = new TwoWells();
        Calls.read(used, LAND);
        askAll(used, 0);
        lookAtObject(used);
        lookAtCalls(used);
        System.out.println(wrong == 0 ? "the room is enough" : wrong + " things are too much");
        if (wrong != 0 || answers == 0) {
            System.exit(1);
        }
    }

    private static void atMost(String what, long got, long most) {
        if (got > most) {
            wrong++;
            System.out.println(what + ": " + got + ", due are at most " + most);
        }
    }

    // ---- what an object has

    private static void lookAtObject(TwoWells x) throws Exception {
        Set<Object> met = Collections.newSetFromMap(new IdentityHashMap<>());
        List<Object> open = new ArrayList<>(List.of(x));
        long elements = 0;
        while (!open.isEmpty()) {
            Object o = open.remove(open.size() - 1);
            if (met.add(o)) {
                elements += o.getClass().isArray() ? lookAtArray(o, open) : lookAtFields(o, open);
            }
        }
        atMost("objects and arrays", met.size(), MOST_OBJECTS);
        atMost("fields and elements", elements, MOST_ELEMENTS);
    }

    private static int lookAtArray(Object array, List<Object> open) {
        int size = Array.getLength(array);
        for (int i = 0; i < size && !array.getClass().getComponentType().isPrimitive(); i++) {
            addIfAny(Array.get(array, i), open);
        }
        return size;
    }

    private static int lookAtFields(Object o, List<Object> open) throws Exception {
        int fields = 0;
        for (Field f : o.getClass().getDeclaredFields()) {
            if (!Modifier.isStatic(f.getModifiers())) {
                fields++;
                if (!f.getType().isPrimitive()) {
                    f.setAccessible(true);
                    addIfAny(f.get(o), open);
                }
            }
        }
        return fields;
    }

    private static void addIfAny(Object o, List<Object> open) {
        if (o != null) {
            open.add(o);
        }
    }

    // ---- what calls make

    /** What the machine itself makes when a call is done for the first time is made ahead of it. */
    private static void lookAtCalls(TwoWells x) {
        ThreadMXBean machine = (ThreadMXBean) ManagementFactory.getThreadMXBean();
        long none = made(machine);
        long before = machine.getCurrentThreadAllocatedBytes();
        for (int i = 0; i < CALLS / 64; i++) {
            askAll(x, i);
        }
        long after = machine.getCurrentThreadAllocatedBytes();
        atMost("bytes made by some 512 calls", after - before, none);
    }

    /** What it costs to look at what was made. */
    private static long made(ThreadMXBean machine) {
        long most = 0;
        for (int i = 0; i < 10; i++) {
            long before = machine.getCurrentThreadAllocatedBytes();
            long after = machine.getCurrentThreadAllocatedBytes();
            most = Math.max(most, after - before);
        }
        return most;
    }

    /** Some 64 calls, each of the face at least once. */
    private static void askAll(TwoWells x, int i) {
        answers += x.image(0);
        askHours(x, i);
        askRest(x);
        askSought(x, i);
        answers += x.restore(0) + x.count(5);
        answers += x.feed(0x686f7573, 0x6520373b, 0x66756c6c, 0x20333b66, 0x6c792039);
        answers += x.land(19) + x.fault(1);
        answers += x.feed(0x686f7573, 0x6520373b, 0x66756c6c, 0x20333b66, 0x6c79203b);
        answers += x.land(20) + x.fault(1) + x.restore(0);
    }

    private static void askHours(TwoWells x, int i) {
        answers += x.numbers(0, 1, 3) + x.write(0, 0, 20) + x.write(0, 1, -1) + x.write(0, 2, 21);
        answers += x.judge(0, 3) + x.perform(0) + x.judge(1, 0);
        answers += x.pass() + x.pull(0, 0) + x.custom(99, 10) + x.live(99) + x.drought(i, 60);
        answers += x.stones(1, true, i % 10) + x.house(0, 7) + x.rope(0, 8);
    }

    private static void askRest(TwoWells x) {
        answers += x.rests() + x.calm() + x.even() + x.lifts(0, 0);
        answers += x.together() + x.parted() + x.ring() + x.neighbours(0) + x.severs(0);
    }

    private static void askSought(TwoWells x, int i) {
        answers += x.soonest(0, 3) + x.loss(0, i % 3) + x.cheapest(0, 6) + x.cheapest(3, 5);
        answers += x.alone(0, 7, 0) + x.alone(2, 7, 16) + x.mate(0) + x.dwellings(10) + x.clash(-1);
        answers += x.numbers(1, 0, 3) + x.copy(1) + x.seen(1) + x.pulled(1) + x.cut(1);
    }
}
