import com.sun.management.ThreadMXBean;
import java.lang.management.ManagementFactory;

/** The room of a run: what the constructor makes is small, and no later call makes an object. */
public final class RoomTest {
    private static final ThreadMXBean THREADS = (ThreadMXBean) ManagementFactory.getThreadMXBean();
    private static final long MOST_BYTES = 160_000;

    public static void main(String[] args) {
        run();
        long before = THREADS.getCurrentThreadAllocatedBytes();
        long bare = THREADS.getCurrentThreadAllocatedBytes() - before;
        before = THREADS.getCurrentThreadAllocatedBytes();
        PatternMill mill = new PatternMill();
        long made = THREADS.getCurrentThreadAllocatedBytes() - before - bare;
        before = THREADS.getCurrentThreadAllocatedBytes();
        use(mill);
        long later = THREADS.getCurrentThreadAllocatedBytes() - before - bare;
        System.out.println("the constructor makes " + made + " bytes, " + "500 calls " + later);
        Check.due("the constructor's bytes are few", true, made <= MOST_BYTES);
        Check.due("bytes made by later calls", 0, later);
        Check.end();
    }

    /** Once before it is measured, so that all classes are there. */
    private static void run() {
        use(new PatternMill());
    }

    private static void use(PatternMill mill) {
        for (int i = 0; i < 64; i++) {
            mill.sign(97);
        }
        mill.let(0);
        for (int round = 0; round < 20; round++) {
            mill.sign(97);
            int a = mill.node(0, 0, 0);
            int arb = mill.node(11, 0, 0);
            int place = mill.node(21, 2, 0);
            int keep = mill.node(19, mill.node(17, a, arb), 3);
            int now = mill.node(20, keep, 4);
            int many = mill.node(16, mill.node(18, now, place), 0);
            int all = mill.node(17, many, mill.node(17, mill.node(22, 4, 0), mill.node(13, 0, 0)));
            mill.match(0, all, false);
            mill.match(0, now, false);
            mill.sign(98);
            mill.replace(0);
            mill.latest(0);
            mill.about(a, 3);
            mill.value(0, 1);
            mill.length(0);
            mill.clear();
        }
    }
}
