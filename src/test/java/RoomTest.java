import java.lang.management.ManagementFactory;
import java.lang.reflect.Array;
import java.lang.reflect.Field;
import java.lang.reflect.Modifier;
import java.util.ArrayDeque;
import java.util.Deque;
import java.util.IdentityHashMap;
import java.util.Map;

/** What one tower and its calls make must fit into the room of a run many times over. */
public final class RoomTest {
    private static final int CALLS = 512;
    private static final int ROOM_OBJECTS = 600_000;
    private static final int ROOM_CELLS = 7_300_000;

    private RoomTest() {
    }

    public static void main(String[] args) throws IllegalAccessException {
        countTower();
        callsMakeNothing();
        Notation.end("RoomTest");
    }

    /** A run might make a new tower in each of its calls. */
    private static void countTower() throws IllegalAccessException {
        Map<Object, Boolean> seen = new IdentityHashMap<>();
        Deque<Object> open = new ArrayDeque<>();
        open.add(new BambooTower());
        long cells = 0;
        while (!open.isEmpty()) {
            Object object = open.remove();
            if (seen.put(object, true) == null) {
                cells += visit(object, open);
            }
        }
        System.out.println("a tower is " + seen.size() + " objects with " + cells + " cells");
        Notation.due("objects fit", (long) seen.size() * CALLS < ROOM_OBJECTS / 2 ? 1 : 0, 1);
        Notation.due("cells fit", cells * CALLS < ROOM_CELLS / 2 ? 1 : 0, 1);
    }

    private static long visit(Object object, Deque<Object> open) throws IllegalAccessException {
        if (object.getClass().isArray()) {
            if (!object.getClass().getComponentType().isPrimitive()) {
                for (int i = 0; i < Array.getLength(object); i++) {
                    open.add(Array.get(object, i));
                }
            }
            return Array.getLength(object);
        }
        long cells = 0;
        for (Field field : object.getClass().getDeclaredFields()) {
            if (!Modifier.isStatic(field.getModifiers())) {
                cells++;
                field.setAccessible(true);
                if (!field.getType().isPrimitive()) {
                    open.add(field.get(object));
                }
            }
        }
        return cells;
    }

    private static void callsMakeNothing() {
        com.sun.management.ThreadMXBean threads = (com.sun.management.ThreadMXBean) ManagementFactory.getThreadMXBean();
        BambooTower first = new BambooTower();
        BambooTower second = new BambooTower();
        callAll(first);
        threads.getCurrentThreadAllocatedBytes();
        long before = threads.getCurrentThreadAllocatedBytes();
        callAll(second);
        long made = threads.getCurrentThreadAllocatedBytes() - before;
        System.out.println("the calls made " + made + " bytes");
        Notation.due("bytes for " + CALLS + " calls", made < 20_000 ? 1 : 0, 1);
    }

    private static void callAll(BambooTower tower) {
        for (int round = 0; round < 10; round++) {
            tower.bundle(30, 12);
            tower.strips(99);
            tower.build(round % 8, 4, 12);
            tower.tie(0);
            tower.crew(2);
            tower.inspector(9);
            tower.up(0, 0);
            tower.lift(0, 9);
            tower.day(13);
            tower.inspect(0, 0);
            tower.up(0, 0);
            tower.append('n');
            tower.append('5');
            tower.append(';');
            tower.append('g');
            tower.append('8');
            tower.script();
            tower.append('t');
            tower.append('9');
            tower.script();
            tower.undo();
            tower.down(0);
            tower.reason(1, true);
            tower.describe();
            tower.written(2);
            tower.oldest(0);
            tower.weakest();
            tower.highest();
            tower.wouldFall(8);
            tower.oldIn(0);
            tower.doneIn(0);
            tower.strength(0, true);
            tower.storeyOf(0, 6);
            tower.crewOf(0, 2);
            tower.inspectorOf(0, 1);
            tower.bundleOf(0, true);
            tower.work(true);
            tower.meanStrength();
            tower.doneShare();
            tower.account(6);
            tower.save();
            tower.restore();
            tower.signal(8);
            tower.fault();
            if (round == 6) {
                tower.clear();
            }
        }
    }
}
