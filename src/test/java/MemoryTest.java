import java.lang.reflect.Array;
import java.lang.reflect.Field;
import java.lang.reflect.Modifier;
import java.util.ArrayDeque;
import java.util.Collections;
import java.util.Deque;
import java.util.IdentityHashMap;
import java.util.Set;

/**
 * "All memory is made at first.": an object holds the same objects behind its last call as behind
 * its constructor, and few enough of them for many objects in one room.
 */
public final class MemoryTest {
    private static final int MOST_OBJECTS = 200;
    private static final int MOST_FIELDS_AND_ELEMENTS = 40000;

    public static void main(String[] args) throws IllegalAccessException {
        RingGuard net = new RingGuard();
        Set<Object> first = heldBy(net);
        Check.isTrue("objects: " + first.size(), first.size() <= MOST_OBJECTS);
        int size = countFieldsAndElements(first);
        Check.isTrue("fields and elements: " + size, size <= MOST_FIELDS_AND_ELEMENTS);
        layOut(net);
        Check.isTrue("the same behind start()", heldBy(net).equals(first));
        live(net);
        Check.isTrue("the same behind all", heldBy(net).equals(first));
        Check.end();
    }

    /** Six rings of 48 bridges: all there can be. */
    private static void layOut(RingGuard net) {
        for (int i = 0; i < 48; i++) {
            net.bridge();
        }
        for (int ring = 0; ring < 6; ring++) {
            int from = Math.max(0, 8 * ring - 1);
            int last = 8 * ring + 7;
            net.owner(ring, from, ringOf(net, ring, from, last));
        }
        Check.equal("start()", net.start(), 0);
    }

    /** The first of its links. */
    private static int ringOf(RingGuard net, int ring, int from, int last) {
        int first = net.link(last, from, ring);
        for (int bridge = from; bridge < last; bridge++) {
            net.link(bridge, bridge + 1, ring);
        }
        return first;
    }

    private static void live(RingGuard net) {
        for (int host = 0; host < 64; host++) {
            net.host(host, host % 48);
        }
        for (int i = 0; i < 40; i++) {
            net.fail(i);
            net.order(0, i % 2, i % 4 < 2);
            net.ticks(50);
            net.lose(i, 10);
            net.send(i, i + 1, i % 4);
            net.heal(i);
            net.ticks(50);
        }
        Check.isTrue("it was a life", net.told(0, 0, 0) > 40 && net.lost() > 0);
    }

    private static Set<Object> heldBy(Object root) throws IllegalAccessException {
        Set<Object> seen = Collections.newSetFromMap(new IdentityHashMap<>());
        Deque<Object> open = new ArrayDeque<>();
        add(root, seen, open);
        while (!open.isEmpty()) {
            Object next = open.remove();
            if (next instanceof Object[] row) {
                for (Object each : row) {
                    add(each, seen, open);
                }
            } else if (!next.getClass().isArray()) {
                addFields(next, seen, open);
            }
        }
        return seen;
    }

    private static void addFields(Object from, Set<Object> seen, Deque<Object> open) throws IllegalAccessException {
        for (Field field : from.getClass().getDeclaredFields()) {
            if (!Modifier.isStatic(field.getModifiers()) && !field.getType().isPrimitive()) {
                field.setAccessible(true);
                add(field.get(from), seen, open);
            }
        }
    }

    private static void add(Object each, Set<Object> seen, Deque<Object> open) {
        if (each != null && seen.add(each)) {
            open.add(each);
        }
    }

    private static int countFieldsAndElements(Set<Object> objects) {
        int count = 0;
        for (Object each : objects) {
            count += each.getClass().isArray() ? Array.getLength(each) : each.getClass().getDeclaredFields().length;
        }
        return count;
    }
}
