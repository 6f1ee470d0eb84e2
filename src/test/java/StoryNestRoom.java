import java.lang.management.ManagementFactory;
import java.lang.reflect.Array;
import java.lang.reflect.Field;
import java.lang.reflect.Modifier;
import java.util.Collections;
import java.util.IdentityHashMap;
import java.util.Set;

/** How much room an object takes, and that its dearest calls take none more. */
public final class StoryNestRoom {
    private static final long MOST_ELEMENTS = 40000;
    private static final long MOST_OBJECTS = 100;
    private static final long CALLS_MAY_TAKE = 20000;

    private static long objects = 0;
    private static long elements = 0;

    public static void main(String[] args) throws Exception {
        count(new StoryNest(), Collections.newSetFromMap(new IdentityHashMap<>()));
        System.out.println("a new object: " + objects + " objects, " + elements + " fields and elements");
        boolean good = objects <= MOST_OBJECTS && elements <= MOST_ELEMENTS;
        StoryNest x = largest();
        dearCalls(x);
        long before = taken();
        dearCalls(x);
        long more = taken() - before;
        System.out.println("512 dear calls: " + more + " bytes");
        if (!good || more > CALLS_MAY_TAKE) {
            System.out.println("that is too much");
            System.exit(1);
        }
    }

    private static void count(Object o, Set<Object> seen) throws Exception {
        if (o == null || !seen.add(o)) {
            return;
        }
        objects++;
        if (o.getClass().isArray()) {
            elements += Array.getLength(o);
            for (int i = 0; !o.getClass().getComponentType().isPrimitive() && i < Array.getLength(o); i++) {
                count(Array.get(o, i), seen);
            }
            return;
        }
        for (Field f : o.getClass().getDeclaredFields()) {
            if (!Modifier.isStatic(f.getModifiers())) {
                elements++;
                f.setAccessible(true);
                if (!f.getType().isPrimitive()) {
                    count(f.get(o), seen);
                }
            }
        }
    }

    private static StoryNest largest() {
        StoryNest x = new StoryNest();
        for (int s = 0; s < 4; s++) {
            for (char c : "9:9:9:9".toCharArray()) {
                x.say(c);
            }
            x.story(s);
        }
        return x;
    }

    private static void dearCalls(StoryNest x) {
        for (int n = 0; n < 64; n++) {
            x.set(0, n % 3);
            x.ways(15, 4);
            x.shortest(15, 4, 15);
            x.ends(n % 4, 15, 3, 0);
            x.turns(n % 4, 15, 144, 0);
            x.heard();
            x.dropped(15);
            x.who(0);
        }
    }

    private static long taken() {
        com.sun.management.ThreadMXBean threads =
            (com.sun.management.ThreadMXBean) ManagementFactory.getThreadMXBean();
        return threads.getThreadAllocatedBytes(Thread.currentThread().getId());
    }
}
