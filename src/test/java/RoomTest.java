import java.lang.reflect.Array;
import java.lang.reflect.Field;
import java.lang.reflect.Modifier;
import java.util.ArrayDeque;
import java.util.Collections;
import java.util.Deque;
import java.util.IdentityHashMap;
import java.util.Set;

/**
 * All calls of a run live in one room, so an object with all its links has to be small, and whatever
 * is called then must not make it larger.
 */
public final class RoomTest {
    private static final int MOST_OBJECTS = 1000;
    private static final int MOST_ELEMENTS = 20000;
    private static final int CALLS = 512;

    private int objects;
    private int elements;

    public static void main(String[] args) throws IllegalAccessException {
        SignalNetwork net = new SignalNetwork();
        int calls = build(net);
        RoomTest built = measure(net);
        use(net, CALLS - calls);
        RoomTest used = measure(net);
        boolean isSmall = built.objects <= MOST_OBJECTS && built.elements <= MOST_ELEMENTS;
        boolean isSteady = used.objects == built.objects && used.elements == built.elements;
        System.out.println("room: " + built + " when built, " + used + " when used");
        if (!isSmall || !isSteady) {
            System.exit(1);
        }
    }

    /** Ten links between ten pairs (more are refused): so the most flows and circuits, too. */
    private static int build(SignalNetwork net) {
        int calls = 0;
        for (int a = 0; a < 6; a++) {
            for (int b = a + 1; b < 6 && b <= a + 3; b++) {
                int link = net.link(a, b);
                net.activate(link, true);
                net.route(a, b, b, SignalNetwork.NONE);
                net.route(b, a, a, SignalNetwork.NONE);
                calls += 4;
            }
        }
        return calls;
    }

    private static void use(SignalNetwork net, int calls) {
        for (int i = 0; i < calls; i++) {
            int subscriber = i * 7 % 6 * 10 + i % 4;
            switch (i % 8) {
                case 0: net.tick(200); break;
                case 1: net.dial(subscriber, i * 5 % 6 * 10 + i % 3); break;
                case 2: net.tick(5); break;
                case 3: net.answer(i % 6 * 10 + i % 3); break;
                case 4: net.damage(i % 10, i % 2, 7); break;
                case 5: net.block(i % 6, (i + 1) % 6, i % 4, i % 3 == 0); break;
                case 6: net.activate(i % 10, i % 3 == 0); break;
                default: net.hang(subscriber); break;
            }
        }
    }

    private static RoomTest measure(SignalNetwork net) throws IllegalAccessException {
        RoomTest room = new RoomTest();
        Set<Object> seen = Collections.newSetFromMap(new IdentityHashMap<>());
        Deque<Object> open = new ArrayDeque<>();
        open.add(net);
        seen.add(net);
        while (!open.isEmpty()) {
            Object one = open.poll();
            room.objects++;
            if (one.getClass().isArray()) {
                room.countArray(one, seen, open);
            } else {
                room.countFields(one, seen, open);
            }
        }
        return room;
    }

    private void countArray(Object row, Set<Object> seen, Deque<Object> open) {
        elements += Array.getLength(row);
        for (int i = 0; i < Array.getLength(row) && !row.getClass().getComponentType().isPrimitive(); i++) {
            note(Array.get(row, i), seen, open);
        }
    }

    private void countFields(Object one, Set<Object> seen, Deque<Object> open) throws IllegalAccessException {
        for (Field field : one.getClass().getDeclaredFields()) {
            if (!Modifier.isStatic(field.getModifiers())) {
                elements++;
                field.setAccessible(true);
                note(field.getType().isPrimitive() ? null : field.get(one), seen, open);
            }
        }
    }

    private static void note(Object one, Set<Object> seen, Deque<Object> open) {
        if (one != null && seen.add(one)) {
            open.add(one);
        }
    }

    @Override public String toString() {
        return objects + " objects, " + elements + " fields and elements";
    }
}
