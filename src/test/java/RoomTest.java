import java.lang.management.ManagementFactory;

/** How much room objects and calls take: all calls of a run live in one. */
public final class RoomTest {
    private static final com.sun.management.ThreadMXBean THREAD =
        (com.sun.management.ThreadMXBean) ManagementFactory.getThreadMXBean();
    // an element of the class is an int: 7.3 million of them, and nothing thrown away
    private static final long WHOLE_ROOM = 7_300_000L * 4;

    public static void main(String[] args) {
        fullObject();
        manyCalls();
        manyObjects();
        Check.end();
    }

    private static long taken() {
        return THREAD.getThreadAllocatedBytes(Thread.currentThread().getId());
    }

    private static LoadPress full() {
        LoadPress x = new LoadPress();
        x.visit();
        for (int i = 0; i < 20; i++) {
            x.ask(i * 7 % 10, i * 3);
        }
        for (int page = 0; page < 10; page++) {
            x.cost(page, 50);
        }
        return x;
    }

    private static void fullObject() {
        for (int i = 0; i < 3; i++) {
            full().press(60, 0, 1);
        }
        long before = taken();
        full().press(60, 0, 1);
        Check.due("an object in a tenth of the room", taken() - before < WHOLE_ROOM / 10, true);
    }

    private static void manyCalls() {
        LoadPress x = full();
        x.press(60, 0, 1);
        long before = taken();
        for (int i = 0; i < 500; i++) {
            x.press(60, i % 100, 1 + i % 8);
            x.learn();
            x.states(1 + i % 4);
            x.contexts(1 + i % 4);
            x.part(500, 0);
            x.late(10, 0);
            x.behind();
            x.waiting(i);
            x.count(6);
            x.told(0, 0, 4);
        }
        Check.due("calls in a tenth of the room", taken() - before < WHOLE_ROOM / 10, true);
    }

    private static void manyObjects() {
        long before = taken();
        int visits = 0;
        for (int i = 0; i < 512; i++) {
            visits += new LoadPress().visit();
        }
        Check.due("their first visits", visits, 0);
        Check.due("512 objects in one room", taken() - before < WHOLE_ROOM, true);
    }
}
