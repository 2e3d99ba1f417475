import java.lang.reflect.Array;
import java.lang.reflect.Field;
import java.lang.reflect.Modifier;
import java.util.ArrayDeque;
import java.util.Collections;
import java.util.Deque;
import java.util.IdentityHashMap;
import java.util.Set;

/** All calls of a run share a room of some 600,000 objects and 7.3 million fields and elements, even if each makes a new object. */
public final class RoomTest {
    private static final int CALLS = 512;

    public static void main(String[] args) throws Exception {
        long[] fresh = size(new QuotaMeter());
        System.out.println("a new object: " + fresh[0] + " objects, " + fresh[1] + " fields and elements");
        Check.holds("objects of as many new ones as there are calls", fresh[0] * CALLS < 600000);
        Check.holds("elements of as many new ones as there are calls", fresh[1] * CALLS < 7300000);
        long[] full = size(fullMeter());
        System.out.println("a full one: " + full[0] + " objects, " + full[1] + " fields and elements");
        Check.holds("objects of a full one", full[0] < 6000);
        Check.holds("elements of a full one", full[1] < 73000);
        Check.end();
    }

    /** As full as 512 calls can make it. */
    private static QuotaMeter fullMeter() {
        QuotaMeter m = new QuotaMeter();
        for (int i = 0; i < 24; i++) {
            m.account(0, i - 1);
        }
        for (int key = 0; key < 200; key++) {
            m.event(key, 23, key % 4, 1, 0);
        }
        for (int i = 0; i < 200; i++) {
            m.request(23, 0, 1);
            if (i % 40 == 39) {
                m.tick(60);
            }
        }
        for (int i = 0; i < 9; i++) {
            m.tick(10000);
        }
        for (int i = 0; i < 60; i++) {
            m.close(0);
        }
        Check.due("it is full of holds", 0, m.hold(199, 4));
        Check.due("it is full of invoices", 60, m.count(4));
        return m;
    }

    private static long[] size(Object root) throws Exception {
        Set<Object> seen = Collections.newSetFromMap(new IdentityHashMap<>());
        Deque<Object> open = new ArrayDeque<>();
        open.add(root);
        long elements = 0;
        while (!open.isEmpty()) {
            Object o = open.remove();
            if (!seen.add(o)) {
                continue;
            }
            if (o.getClass().isArray()) {
                elements += Array.getLength(o);
                for (int i = 0; i < Array.getLength(o) && !o.getClass().getComponentType().isPrimitive(); i++) {
                    if (Array.get(o, i) != null) {
                        open.add(Array.get(o, i));
                    }
                }
                continue;
            }
            for (Field f : o.getClass().getDeclaredFields()) {
                if (Modifier.isStatic(f.getModifiers())) {
                    continue;
                }
                elements++;
                f.setAccessible(true);
                if (!f.getType().isPrimitive() && f.get(o) != null) {
                    open.add(f.get(o));
                }
            }
        }
        return new long[] {seen.size(), elements};
    }
}
