import java.lang.management.ManagementFactory;
import java.lang.reflect.Array;
import java.lang.reflect.Field;
import java.lang.reflect.Modifier;
import java.util.ArrayDeque;
import java.util.Collections;
import java.util.Deque;
import java.util.IdentityHashMap;
import java.util.Set;
import java.util.function.IntConsumer;

/** What an object takes of the room that all calls of a run share, and that objects share nothing else. */
public final class RoomTest extends Check {
    private static final int CALLS = 512;
    /** The room: objects and arrays, fields and elements. A hundredth has to do for an object, however used. */
    private static final int OBJECTS = 600000;
    private static final int ELEMENTS = 7300000;
    private static final String FULL = "canal gives 999;"
        + times(8, pool("#", 50, 10, 90, 120, 9, 1, 999, 999, 10))
        + times(10, "outlet o# at b takes 9;") + times(14, "order ob from 5 for 9;")
        + "turns 3 ob,oc,od,oe,of,og;turns 2 oh,oi,oj,ok;";

    private RoomTest() {
    }

    public static void main(String[] args) throws IllegalAccessException {
        part("What it is", "An object is used", "\n## ");
        sentence("An object is used for at most 512 calls after it has been made; what later calls answer is free.");
        roomOfActs();
        roomOfTexts();
        callsMakeNothing();
        alike();
        finish();
    }

    private static void roomOfActs() throws IllegalAccessException {
        CanalKeeper k = told(FULL);
        for (int i = 0; i < CALLS; i++) {
            k.set(2, 0, 1 + i % 99);
            k.steps(1 + i % 3);
            k.chance(1);
        }
        due("all 20 can be undone", k.has(8), 20);
        fitsIn(k, "behind acts");
    }

    private static void roomOfTexts() throws IllegalAccessException {
        CanalKeeper k = new CanalKeeper();
        for (int i = 0; i < CALLS; i++) {
            tape(k, FULL);
            due("canal()", k.canal(), 1 + 8 + 10 + 14 + 2);
            k.steps(1);
        }
        fitsIn(k, "behind texts");
    }

    private static void fitsIn(CanalKeeper k, String when) throws IllegalAccessException {
        int[] count = count(k);
        due("objects " + when + ": " + count[0], count[0] <= OBJECTS / 100, true);
        due("fields and elements " + when + ": " + count[1], count[1] <= ELEMENTS / 100, true);
    }

    /** Objects and arrays that can be reached, and fields and elements in them. */
    private static int[] count(Object first) throws IllegalAccessException {
        int[] count = new int[2];
        Set<Object> met = Collections.newSetFromMap(new IdentityHashMap<>());
        Deque<Object> open = new ArrayDeque<>();
        open.add(first);
        met.add(first);
        while (!open.isEmpty()) {
            Object next = open.remove();
            count[0]++;
            if (next.getClass().isArray()) {
                count[1] += Array.getLength(next);
                for (int i = 0; i < Array.getLength(next) && !next.getClass().getComponentType().isPrimitive(); i++) {
                    meet(Array.get(next, i), met, open);
                }
                continue;
            }
            for (Field f : next.getClass().getDeclaredFields()) {
                if (!Modifier.isStatic(f.getModifiers())) {
                    count[1]++;
                    f.setAccessible(true);
                    if (!f.getType().isPrimitive()) {
                        meet(f.get(next), met, open);
                    }
                }
            }
        }
        return count;
    }

    private static void meet(Object other, Set<Object> met, Deque<Object> open) {
        if (other != null && met.add(other)) {
            open.add(other);
        }
    }

    private static void callsMakeNothing() {
        CanalKeeper k = told(FULL);
        for (int i = 0; i < 25; i++) {
            k.set(2, 0, 30 + i);
        }
        see(k, 1, 1, k.later(1, 1));
        makesNothing("steps", i -> k.steps(1));
        makesNothing("chance", i -> k.chance(1));
        makesNothing("ask, cancel", i -> k.cancel(k.ask(i % 10, 9999, 9)));
        makesNothing("hand", i -> k.hand(i % 8, i));
        makesNothing("set", i -> k.set(1, 0, i));
        makesNothing("undo", i -> k.undo());
        makesNothing("feed, end, canal", i -> tapeAndCanal(k));
        tape(k, FULL);
        k.canal();
        see(k, 1, 1, k.later(1, 1));
        makesNothing("has, pool, gate", i -> k.has(i % 11 + k.pool(i % 8, 6) * 0 + k.gate(i % 8, 3) * 0));
        makesNothing("event, rank, alarm", i -> k.rank(k.event(i % 28, 1) * 0 + k.alarm(i, 0) * 0));
        makesNothing("later, when, lacks", i -> k.lacks(NONE, 1 + k.later(1, 40) * 0 + k.when(1, 1) * 0));
        makesNothing("least", i -> k.least(i % 60 + 1));
        makesNothing("gain", i -> k.gain(i % 100 + 1, 0));
        makesNothing("best", i -> k.best(i % 8, i % 40 + 1, 0));
        makesNothing("fits", i -> k.fits(i % 10, i % 99 + 1));
        makesNothing("leaks, tells", i -> k.leaks(k.tells(0)));
    }

    private static void tapeAndCanal(CanalKeeper k) {
        k.feed(0x63616e61, 0x6c206769, 0x76657320, 0x353b2020, 0x20202020);
        k.end(14);
        k.canal();
    }

    /** The bytes that this thread makes are counted; a few are the machine's own, when it does a thing first. */
    private static void makesNothing(String calls, IntConsumer call) {
        for (int i = 0; i < 5; i++) {
            call.accept(i);
        }
        long before = made();
        for (int i = 0; i < 60; i++) {
            call.accept(i);
        }
        long much = made() - before;
        due(calls + " made " + much + " bytes", much < 60 * 16, true);
    }

    private static long made() {
        com.sun.management.ThreadMXBean threads =
            (com.sun.management.ThreadMXBean) ManagementFactory.getThreadMXBean();
        return threads.getThreadAllocatedBytes(Thread.currentThread().getId());
    }

    /** The same calls give the same answers, whatever other objects were asked in between. */
    private static void alike() {
        CanalKeeper one = told(FULL);
        CanalKeeper other = told("canal gives 3;" + pool("z", 9, 1, 20, 30, 3, 2, 9, 2, 4) + "outlet y at z takes 2;");
        CanalKeeper alone = told(FULL);
        for (int i = 0; i < 30; i++) {
            one.chance(2);
            other.chance(3);
            other.fits(0, 5);
            one.hand(i % 8, i);
            other.undo();
        }
        for (int i = 0; i < 30; i++) {
            alone.chance(2);
            alone.hand(i % 8, i);
        }
        due("alike", state(one).equals(state(alone)), true);
        due("later", one.later(3, 200), alone.later(3, 200));
        due("fits", one.fits(2, 9), alone.fits(2, 9));
    }
}
