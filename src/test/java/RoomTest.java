import java.lang.management.ManagementFactory;
import java.lang.reflect.Array;
import java.lang.reflect.Field;
import java.lang.reflect.Modifier;
import java.util.ArrayDeque;
import java.util.Collections;
import java.util.Deque;
import java.util.IdentityHashMap;
import java.util.Set;

/** LANGUAGE.md, rule 12: what an object holds is small and does not grow, and no call makes an object. */
public final class RoomTest {
    /** All calls of a run live in one room; each of them might be one that makes a new RoadDepots. */
    private static final int CALLS_OF_A_RUN = 512;
    private static final int OBJECTS_OF_A_ROOM = 600000;
    private static final int ELEMENTS_OF_A_ROOM = 7300000;
    private static final int ROUNDS = 5;

    private final Set<Object> seen = Collections.newSetFromMap(new IdentityHashMap<>());
    private final Deque<Object> open = new ArrayDeque<>();
    private long elements = 0;

    public static void main(String[] args) throws Exception {
        holdsLittle();
        doesNotGrow();
        makesNothing();
        Check.end();
    }

    private static void holdsLittle() throws Exception {
        RoomTest room = measure(new RoadDepots());
        Check.due("objects found", room.seen.size() > 1 ? 1 : 0, 1);
        Check.due("elements found", room.elements > 60 ? 1 : 0, 1);
        boolean fewObjects = (long) room.seen.size() * CALLS_OF_A_RUN <= OBJECTS_OF_A_ROOM;
        Check.due(room.seen.size() + " objects are few enough", fewObjects ? 1 : 0, 1);
        boolean fewElements = room.elements * CALLS_OF_A_RUN <= ELEMENTS_OF_A_ROOM;
        Check.due(room.elements + " elements are few enough", fewElements ? 1 : 0, 1);
    }

    private static void doesNotGrow() throws Exception {
        RoadDepots x = new RoadDepots();
        RoomTest before = measure(x);
        useAll(x);
        RoomTest after = measure(x);
        Check.due("objects behind all calls", after.seen.size(), before.seen.size());
        Check.due("elements behind all calls", after.elements, before.elements);
    }

    /** The machine itself may make something now and then, so the round in which least is made counts. */
    private static void makesNothing() {
        com.sun.management.ThreadMXBean thread = (com.sun.management.ThreadMXBean) ManagementFactory.getThreadMXBean();
        long least = Long.MAX_VALUE;
        for (int round = 0; round < ROUNDS; round++) {
            RoadDepots x = new RoadDepots();
            long before = thread.getCurrentThreadAllocatedBytes();
            useAll(x);
            least = Math.min(least, thread.getCurrentThreadAllocatedBytes() - before);
        }
        Check.due("bytes that all calls make", least, 0);
    }

    /** Every call of the face, on the greatest land, with every sentence but add, for which there is no room. */
    private static void useAll(RoadDepots x) {
        String text = "way 0 59;near 7;all;sum 3;far 1 59;within 0 99;road 59 7;shut 5;open 5;";
        x.draw(7, 58);
        x.add(58, 99);
        x.add(0, 1);
        for (int v = 0; v < 60; v++) {
            x.depot(v, 1);
            x.road(v, 99);
            x.serves(v);
        }
        for (int what = 0; what <= 7; what++) {
            x.of(59, what);
            x.longest(what);
            x.middle(what);
            x.nearest(59, what);
            x.turn(0, 59, what);
            x.left(what);
            x.more(what);
            x.pair(what);
            x.told(what);
        }
        for (int i = 0; i < text.length(); i++) {
            x.type(text.charAt(i));
        }
        Check.due("all nine sentences are done", x.says(), 9);
        x.answer(0);
        x.far(0, 59);
        x.way(59, 0, RoadDepots.NONE);
        x.within(0, 6000);
        x.sum(59);
        x.digest();
        x.clear();
        x.says();
        x.anew();
    }

    private static RoomTest measure(RoadDepots x) throws Exception {
        RoomTest room = new RoomTest();
        room.meet(x);
        while (!room.open.isEmpty()) {
            room.count(room.open.pop());
        }
        return room;
    }

    private void meet(Object o) {
        if (o != null && seen.add(o)) {
            open.push(o);
        }
    }

    private void count(Object o) throws Exception {
        if (o.getClass().isArray()) {
            int length = Array.getLength(o);
            elements += length;
            for (int i = 0; i < length && !o.getClass().getComponentType().isPrimitive(); i++) {
                meet(Array.get(o, i));
            }
            return;
        }
        for (Field f : o.getClass().getDeclaredFields()) {
            if (!Modifier.isStatic(f.getModifiers())) {
                elements++;
                f.setAccessible(true);
                if (!f.getType().isPrimitive()) {
                    meet(f.get(o));
                }
            }
        }
    }
}
