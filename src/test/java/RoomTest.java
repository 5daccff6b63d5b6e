import java.lang.management.ManagementFactory;

/** The calls of a long run make no objects: what an object needs is made with it. */
public final class RoomTest {
    private static final int CALLS = 512;
    private static final long MOST_BYTES_OF_CALLS = 4096;
    private static final long MOST_BYTES_OF_OBJECT = 40000;

    public static void main(String[] args) {
        var threads = (com.sun.management.ThreadMXBean) ManagementFactory.getThreadMXBean();
        long own = Thread.currentThread().getId();
        longRun(new EdgeCampaign(1));
        long before = threads.getThreadAllocatedBytes(own);
        EdgeCampaign x = new EdgeCampaign(2);
        long made = threads.getThreadAllocatedBytes(own);
        longRun(x);
        long after = threads.getThreadAllocatedBytes(own);
        Expect.same("findings were made", x.count(4) > 0, true);
        Expect.same("an object takes " + (made - before) + " bytes", made - before > MOST_BYTES_OF_OBJECT, false);
        Expect.same("its calls take " + (after - made) + " bytes", after - made > MOST_BYTES_OF_CALLS, false);
        Expect.done();
    }

    /** A loop by the first byte, and a trap by the second. */
    private static void longRun(EdgeCampaign x) {
        x.emit(2, 0, 1);
        x.emit(1, 2, -1);
        x.emit(3, 0, 2);
        x.emit(7, 0, 5);
        x.emit(8, 0, 2);
        x.emit(1, 1, 1);
        x.emit(2, 0, 1);
        x.emit(12, 0, 255);
        x.feed(3);
        x.feed(3);
        x.plant();
        for (int call = 11; call < CALLS - 1; call++) {
            x.fuzz(20);
        }
    }
}
