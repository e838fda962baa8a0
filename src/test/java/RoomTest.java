import com.sun.management.ThreadMXBean;
import java.lang.management.ManagementFactory;

/** All calls of a run live in one room: the dearest ones make no objects, and a new object is small. */
public final class RoomTest {
    private static final ThreadMXBean THREADS = (ThreadMXBean) ManagementFactory.getThreadMXBean();

    public static void main(String[] args) {
        THREADS.getCurrentThreadAllocatedBytes();
        long start = THREADS.getCurrentThreadAllocatedBytes();
        TorusGates x = new TorusGates();
        long made = THREADS.getCurrentThreadAllocatedBytes();
        dearCalls(x);
        long end = THREADS.getCurrentThreadAllocatedBytes();
        Check.same("a new object takes less than 100,000 bytes", true, made - start < 100000);
        Check.same("a run takes less than 20,000 bytes", true, end - made < 20000);
        Check.finish();
    }

    private static void dearCalls(TorusGates x) {
        for (int i = 0; i < 24; i++) {
            x.line(i % 8, 7 + i, i);
        }
        for (int i = 0; i < 60; i++) {
            int a = x.play(31, i);
            int b = x.choose(a, a, a);
            x.blur(a, 1000);
            x.pile(a, 1);
            x.gate(4, a, b);
            x.key(i);
        }
    }
}
