import com.sun.management.ThreadMXBean;
import java.lang.management.ManagementFactory;

/** All calls of a run share one small room, so calls use again what was made before. */
public final class RoomTest {
    /** Three groups of some 4,600 numbers each, with four bytes a number, and room for their heads. */
    private static final long OBJECT = 70_000;
    /** A new object a call, without scripts and snapshots. */
    private static final long CONSTRUCTOR = 25_000;

    public static void main(String[] args) {
        long calls = 0;
        CausalBroadcast warm = new CausalBroadcast();
        work(warm);
        long before = used();
        work(new CausalBroadcast());
        long one = used() - before;
        Check.same("the room of a run with all dear calls, " + one + " bytes, small enough,", true, one < OBJECT);
        before = used();
        for (int i = 0; i < 100; i++) {
            calls += new CausalBroadcast().view();
        }
        long each = (used() - before) / 100;
        Check.same("the room of a new object, " + each + " bytes, small enough,", true, each < CONSTRUCTOR);
        Check.same("the views of the new objects", 0L, calls);
        Check.end();
    }

    private static long used() {
        ThreadMXBean threads = (ThreadMXBean) ManagementFactory.getThreadMXBean();
        return threads.getThreadAllocatedBytes(Thread.currentThread().getId());
    }

    private static void work(CausalBroadcast x) {
        x.reset(63);
        for (int i = 0; i < 100; i++) {
            x.broadcast(i % 6, i);
        }
        for (int i = 0; i < 50; i++) {
            x.arriveAll(i % 6);
            x.saveSnapshot();
            x.restoreSnapshot();
            x.append('b');
            x.append('0');
            x.append('=');
            x.append('1');
            x.run();
            x.disagreements(0, i % 6);
            x.longestChain(0);
            x.unstable(i % 6);
        }
        x.install();
        x.reset(63);
    }
}
