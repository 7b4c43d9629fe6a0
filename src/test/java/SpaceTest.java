import com.sun.management.ThreadMXBean;
import java.lang.management.ManagementFactory;
import java.lang.reflect.Array;
import java.lang.reflect.Field;
import java.lang.reflect.Modifier;
import java.util.Collections;
import java.util.IdentityHashMap;
import java.util.Set;

/** All rows are made by the constructor, and few: the calls behind it make nothing. */
public final class SpaceTest {
    private static final ThreadMXBean COUNTER = (ThreadMXBean) ManagementFactory.getThreadMXBean();
    private static final Set<Object> COUNTED = Collections.newSetFromMap(new IdentityHashMap<>());

    public static void main(String[] args) throws Exception {
        StoryStates s = new StoryStates();
        long[] objectsAndElements = new long[2];
        count(s, objectsAndElements);
        System.out.println("a new one: " + objectsAndElements[0] + " objects and arrays, " + objectsAndElements[1]
                + " fields and elements");
        Check.count("objects of a new one, 60 at most", "true", String.valueOf(objectsAndElements[0] <= 60));
        Check.count("fields and elements, 4000 at most", "true", String.valueOf(objectsAndElements[1] <= 4000));
        run(new StoryStates());
        long before = COUNTER.getThreadAllocatedBytes(Thread.currentThread().getId());
        int calls = run(s);
        long made = COUNTER.getThreadAllocatedBytes(Thread.currentThread().getId()) - before;
        Check.count("calls of a long run", "true", String.valueOf(calls > 400));
        Check.count("bytes made by them: less than one row's, not " + made, "true", String.valueOf(made < 1000));
        Check.end("SpaceTest");
    }

    /** A world with more states than there is room for, explored again and again. */
    private static int run(StoryStates s) {
        int calls = 0;
        for (int i = 0; i < 4; i++) {
            s.room();
            calls++;
        }
        for (int i = 0; i < 6; i++) {
            s.thing(i % 4, 3);
            calls++;
        }
        s.ending(true);
        s.number(0, 7);
        s.rule(7, -2, -2, 1);
        s.effect(0, 3, 0, 1);
        for (int i = 0; i < 40; i++) {
            s.exit(i % 4, i % 3, (i + 1) % 4, -1);
            s.explore(1000);
            s.study(1, 0);
            s.reach(0, true);
            s.way(0, 0, 0);
            s.command(7, -1, -1);
            s.command(0, 0, -1);
            s.state(6, 0);
            s.said(0);
            s.undo();
            s.begin();
            calls += 11;
        }
        s.clear();
        return calls + 5;
    }

    private static void count(Object object, long[] sums) throws IllegalAccessException {
        if (!COUNTED.add(object)) {
            return;
        }
        sums[0]++;
        if (object.getClass().isArray()) {
            sums[1] += Array.getLength(object);
            return;
        }
        for (Field field : object.getClass().getDeclaredFields()) {
            if (!Modifier.isStatic(field.getModifiers())) {
                sums[1]++;
                field.setAccessible(true);
                if (!field.getType().isPrimitive()) {
                    count(field.get(object), sums);
                }
            }
        }
    }
}
