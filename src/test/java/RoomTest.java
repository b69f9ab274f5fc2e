import java.lang.management.ManagementFactory;

/** The room: an object is small, and its calls make nothing, not even the dearest ones. */
public final class RoomTest {
    private static final com.sun.management.ThreadMXBean BEAN =
            (com.sun.management.ThreadMXBean) ManagementFactory.getThreadMXBean();

    private RoomTest() { }

    public static void main(String[] args) {
        // the first object loads the classes, which is none of its own room
        new TollOfNames().look(0);
        used();
        long start = used();
        TollOfNames x = new TollOfNames();
        long made = used() - start;
        // 32 KiB are some 8,000 fields and elements
        boolean small = made < 32 * 1024;
        fill(x);
        dearCalls(x, 1);
        start = used();
        dearCalls(x, 40);
        long calls = used() - start;
        System.out.println("an object takes " + made + " bytes, its calls " + calls);
        if (!small || calls > 2048) {
            System.out.println("that is too much");
            System.exit(1);
        }
    }

    private static long used() {
        return BEAN.getThreadAllocatedBytes(Thread.currentThread().getId());
    }

    /** All that there can be, and a law by which no plan and no way is found soon. */
    private static void fill(TollOfNames x) {
        for (int i = 0; i < 20; i++) {
            x.name(i % 4, 1 + i % 12);
        }
        for (int i = 0; i < 8; i++) {
            x.person(0, i);
            for (int j = 0; j < 6; j++) {
                x.christen(i, (i + 3 * j) % 20);
            }
        }
        for (int i = 0; i < 12; i++) {
            x.bridge(i / 3, i / 3 + 1);
        }
        for (int i = 0; i < 12; i++) {
            x.round(i % 2);
        }
    }

    private static void dearCalls(TollOfNames x, int times) {
        for (int i = 0; i < times; i++) {
            // "leave;" and blanks, fed as numbers so that no text is made here
            x.feed(0x6c656176, 0x653b2020, 0x20202020, 0x20202020, 0x20202020);
            x.text();
            x.image(true);
            x.plan(0, 0);
            x.plan(1, 10);
            x.best(0, 4, 0);
            x.order(63, 0, 0);
            x.behind(0, 0, 1, 2, 0, 1);
            x.night(0, 1);
            x.cross(0, 0);
            x.undo();
            x.take(1, 0, 1);
            x.day();
            x.cousins(0);
            x.alone(0);
            x.image(false);
        }
    }
}
