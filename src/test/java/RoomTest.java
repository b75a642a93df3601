import com.sun.management.ThreadMXBean;
import java.lang.management.ManagementFactory;

/**
 * What the dearest runs of 512 calls make stays far below the room: an object takes 16 bytes at least, a field or an
 * element one, so fewer bytes than these are fewer objects and fewer fields than the room has.
 */
public final class RoomTest {
    private static final long MOST_OBJECTS = 600_000, MOST_FIELDS = 7_300_000;
    private static final long MOST_BYTES = Math.min(MOST_OBJECTS * 16, MOST_FIELDS);
    private static final Check check = new Check();

    public static void main(String[] args) {
        // The first round also loads classes, which is not what a run makes.
        commits();
        asks();
        for (int kind = 0; kind < 2; kind++) {
            long before = madeSoFar();
            if (kind == 0) {
                commits();
            } else {
                asks();
            }
            long made = madeSoFar() - before;
            check.holds("run " + kind + " makes " + made + " bytes", made < MOST_BYTES);
        }
        check.end();
    }

    private static long madeSoFar() {
        ThreadMXBean bean = (ThreadMXBean) ManagementFactory.getThreadMXBean();
        return bean.getThreadAllocatedBytes(Thread.currentThread().getId());
    }

    /** As many transactions and messages as there can be. */
    private static void commits() {
        FarStore x = new FarStore();
        x.sites(4, 3);
        x.thing(0, true);
        for (int t = 0; t < 150; t++) {
            x.begin(t % 4);
            x.add(t, 0, 7, 1);
            x.commit(t);
        }
        for (int i = 0; i < 59; i++) {
            x.all(500);
        }
        check.due("COMMITS", x.count(7), 150);
    }

    /** As many ASKs as there can be, each with its answer and its DROP. */
    private static void asks() {
        FarStore x = new FarStore();
        x.sites(4, 3);
        for (int s = 0; s < 4; s++) {
            x.thing(s, false);
        }
        for (int t = 0; t < 100; t++) {
            x.begin(t % 4);
            for (int s = 1; s < 4; s++) {
                x.write(t, (t + s) % 4, t);
            }
            x.commit(t);
        }
        check.due("ASKS", x.count(4), 300);
        for (int i = 0; i < 4; i++) {
            x.all(500);
        }
        check.due("no messages", x.count(4), 0);
        check.due("no LOCKS", x.count(8), 0);
    }
}
