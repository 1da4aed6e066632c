import com.sun.management.ThreadMXBean;
import java.lang.management.ManagementFactory;

/** All calls of one run share one room: rows are made once, and no call that answers makes any. */
public final class RoomTest {
    private static final ThreadMXBean THREADS = (ThreadMXBean) ManagementFactory.getThreadMXBean();

    private static long made() {
        return THREADS.getThreadAllocatedBytes(Thread.currentThread().getId());
    }

    private static void dearCalls(CanBits x) {
        for (int n = 0; n < 40; n++) {
            x.nodes(32);
            for (int i = 0; i < 32; i++) {
                int frame = x.send(i, 1365 + n, n % 2 * 2, 1);
                x.octet(frame, 0, i);
                x.flip(i, 10 * i + n);
                x.stuffed(frame);
            }
            x.run(2000);
            x.check(2, 0, 2000);
            x.taken(1, CanBits.NONE, 0);
            x.error(CanBits.NONE, 0);
        }
    }

    public static void main(String[] args) {
        made();
        long before = made();
        CanBits x = new CanBits();
        long built = made() - before;
        before = made();
        dearCalls(x);
        long called = made() - before;
        // An element has four bytes at the most, so this is far below the room's 7.3 million.
        Due.is("bytes of a new object below 4,000,000", 1, () -> built < 4_000_000 ? 1 : 0);
        Due.is("bytes of the calls below 100,000", 1, () -> called < 100_000 ? 1 : 0);
        Due.end();
    }
}
