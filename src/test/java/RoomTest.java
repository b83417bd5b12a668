import com.sun.management.ThreadMXBean;
import java.lang.management.ManagementFactory;

/** The rows are made with the object: the dearest calls make next to nothing. */
public final class RoomTest {
    private static final ThreadMXBean THREADS = (ThreadMXBean) ManagementFactory.getThreadMXBean();
    private static final String WAYS = "when [choice q a [1 16] ".repeat(4) + "close" + "] 90 close".repeat(4);

    public static void main(String[] args) {
        // The first time is not counted: the Java machine itself makes something then.
        madeByCalls(2);
        long made = madeByCalls(100);
        Expect.is("octets that 100 analyses of 5,001 steps make beyond 20,000", 0, () -> Math.max(0, made - 20_000));
        long before = octets();
        MarloweHost host = new MarloweHost();
        long one = octets() - before;
        Expect.is("count(0)", -1, () -> host.count(0));
        Expect.is("octets of a new object beyond 250,000", 0, () -> Math.max(0, one - 250_000));
        Expect.finish();
    }

    private static long octets() {
        return THREADS.getThreadAllocatedBytes(Thread.currentThread().getId());
    }

    private static long madeByCalls(int times) {
        MarloweHost host = Expect.host(WAYS);
        long before = octets();
        for (int i = 0; i < times; i++) {
            host.analyse();
            host.remind();
            host.apply(0, 0);
        }
        long made = octets() - before;
        Expect.is("STEPS", 5001, () -> host.count(9));
        return made;
    }
}
