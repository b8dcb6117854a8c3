import com.sun.management.ThreadMXBean;
import java.lang.management.ManagementFactory;
import java.lang.reflect.Array;
import java.lang.reflect.Field;
import java.lang.reflect.Modifier;
import java.util.ArrayList;
import java.util.Collections;
import java.util.IdentityHashMap;
import java.util.List;
import java.util.Set;

/** The one room that all calls of a run live in: what a new object holds, and what its calls make. */
public final class RoomTest {
    private static final Check check = new Check();
    private static final int TIMES = 512;
    // What the machine itself may make beside the calls, in bytes.
    private static final long NEARLY_NOTHING = 20_000;

    public static void main(String[] args) throws IllegalAccessException {
        newObject();
        HalfAsked x = Check.with("f9000,c8000,t7000,w600,f500", "0>1,1>2;2>3,3>4,4>0;0>2,2>4,1>3");
        x.sheet(0, 2, 24);
        x.film(0, 2, 0);
        x.film(0, 2, 5);
        nothing("the dearest searches", () -> searches(x));
        HalfAsked six = Check.with("f9000,c8000,t7000,w600,f500", "0>1,1>2;2>3,3>4,4>0;0>2");
        nothing("orders", () -> orders(six));
        nothing("what changes people", () -> changes(x));
        nothing("what changes sheets that are there", () -> items(x));
        long rows = bytesMadeBy(() -> sheets(x));
        check.holds("a row of 24 and its sheet, " + TIMES + " times: " + rows, rows < TIMES * 300L);
        check.end("room");
    }

    private static long bytesMadeBy(Runnable calls) {
        ThreadMXBean threads = (ThreadMXBean) ManagementFactory.getThreadMXBean();
        long thread = Thread.currentThread().getId();
        long before = threads.getThreadAllocatedBytes(thread);
        calls.run();
        return threads.getThreadAllocatedBytes(thread) - before;
    }

    private static void nothing(String what, Runnable calls) {
        long bytes = bytesMadeBy(calls);
        check.holds("12 bytes made by " + what + ": " + bytes, bytes < NEARLY_NOTHING);
    }

    private static void searches(HalfAsked x) {
        for (int i = 0; i < TIMES; i++) {
            x.week();
            x.most(i % 5);
            x.when(i % 5, (i + 1) % 5);
            x.turns(i % 5);
            x.ends(i % 5);
            x.who(0, 2, 0, 3, -1);
            x.shun(i % 5);
            x.exact(i % 5, 3, 0);
        }
    }

    private static void orders(HalfAsked x) {
        for (int i = 0; i < TIMES; i++) {
            x.week();
            x.order(i % 7 - 1);
            x.so(1 + i % 31, i);
        }
    }

    private static void changes(HalfAsked x) {
        for (int i = 0; i < TIMES; i++) {
            x.image();
            x.run();
            x.set(i % 5, i);
            x.knows(i % 5, (i + 2) % 5, i % 2 == 0);
            x.ask(i % 5, (i + 1) % 5);
            x.told(i % 5, i % 6);
            x.count(i % 6);
            x.type(0x66392c6338L, 5);
            x.people();
            x.person(0, i);
            x.type(0x303e313bL, 4);
            x.plan();
            x.type(0x303e31787878L, 6);
            x.plan();
            x.restore();
        }
    }

    private static void items(HalfAsked x) {
        for (int i = 0; i < TIMES; i++) {
            x.item(0, 2, i % 26, i);
            x.film(0, 2, i % 26);
            x.copy(0, 0, 0, 5, i % 26);
        }
    }

    private static void sheets(HalfAsked x) {
        for (int i = 0; i < TIMES; i++) x.sheet(i % 4, i % 3, 24);
    }

    /** Objects, and fields and elements, that a new object holds: few of some 600,000 and of 7.3 million. */
    private static void newObject() throws IllegalAccessException {
        Set<Object> held = Collections.newSetFromMap(new IdentityHashMap<>());
        List<Object> open = new ArrayList<>(List.of(new HalfAsked()));
        int places = 0;
        while (!open.isEmpty()) {
            Object next = open.remove(open.size() - 1);
            if (!held.add(next)) continue;
            places += next.getClass().isArray() ? look((Object[]) boxed(next), open) : look(next, open);
        }
        check.holds("objects of a new one: " + held.size(), held.size() < 200);
        check.holds("fields and elements of a new one: " + places, places < 1500);
    }

    /** An array's elements; of numbers, as many places that hold nothing. */
    private static Object[] boxed(Object array) {
        return array instanceof Object[] objects ? objects : new Object[Array.getLength(array)];
    }

    private static int look(Object[] array, List<Object> open) {
        for (Object element : array) {
            if (element != null) open.add(element);
        }
        return array.length;
    }

    private static int look(Object object, List<Object> open) throws IllegalAccessException {
        int fields = 0;
        for (Field field : object.getClass().getDeclaredFields()) {
            if (Modifier.isStatic(field.getModifiers())) continue;
            fields++;
            field.setAccessible(true);
            if (!field.getType().isPrimitive() && field.get(object) != null) open.add(field.get(object));
        }
        return fields;
    }
}
