import com.sun.management.ThreadMXBean;
import java.lang.management.ManagementFactory;

/** All calls of a run live in one room: the constructor makes all rows, and no call makes a further one. */
public final class RoomTest {
    private static final int CALLS = 512;
    private static final int BYTES_OF_AN_OBJECT = 60_000;
    private static final int BYTES_OF_ALL_CALLS = 2_000;

    private RoomTest() {
    }

    public static void main(String[] args) {
        ThreadMXBean bean = (ThreadMXBean) ManagementFactory.getThreadMXBean();
        long thread = Thread.currentThread().getId();
        dearCalls(dearest());
        long before = bean.getThreadAllocatedBytes(thread);
        EpochEngine x = new EpochEngine();
        long made = bean.getThreadAllocatedBytes(thread) - before;
        x = dearest();
        before = bean.getThreadAllocatedBytes(thread);
        dearCalls(x);
        long used = bean.getThreadAllocatedBytes(thread) - before;
        System.out.println("RoomTest: an object has " + made + " bytes, " + CALLS + " dear calls make " + used + " more");
        if (made > BYTES_OF_AN_OBJECT || used > BYTES_OF_ALL_CALLS) {
            System.exit(1);
        }
    }

    private static EpochEngine dearest() {
        EpochEngine x = new EpochEngine();
        Teller.tell(x, 0, -1, "workers 4;key 0 1;key 5 5;");
        Teller.tell(x, 1, -1, ("task;" + "scan 0 9;".repeat(5) + "add 5 1;").repeat(7));
        Teller.tell(x, 2, -1, "begin 0 0;step 0;step 0;step 0;step 0;step 0;step 0;commit 0;".repeat(4) + "epoch;flush 0;flush 1;");
        Teller.tell(x, 3, -1, "has 0 1;");
        return x;
    }

    private static int dearCalls(EpochEngine x) {
        int all = 0;
        for (int i = 0; i < CALLS / 16; i++) {
            all += x.serial(0, 0, 0, 1) + x.serial(0, 0, 0, 50) + x.risk(0, 0, i % 7) + x.swaps(0, 0);
            all += x.weave(0, 0, i % 7, 0, 1) + x.fits(0, 0, 0, 0, 1) + x.drawn(0, 0, i, 60, 0) + x.after(0, 0, 0, 0);
            all += x.state(0, 0, 0, 30, 30) + x.why(0, 0, 0, 20, 0) + x.free(0, 0) + x.keys(0, 0, 0);
            all += x.image(1) && x.again(1) ? 1 : 0;
            all += x.feed(i, i, i, i, i) + x.text(0, -1);
        }
        return all;
    }
}
