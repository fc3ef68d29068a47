import java.lang.management.ManagementFactory;

/** All calls of one run live in one room: an object is made once, and its calls make nothing more. */
public final class RoomTest {
    private static final long MOST_BYTES_OF_AN_OBJECT = 600_000L;
    private static final long MOST_BYTES_OF_512_CALLS = 50_000L;
    private static final Check CHECK = new Check();

    public static void main(String[] args) {
        // once without counting, so that what the machine itself loads is not counted
        run();
        run();
        CHECK.close("RoomTest");
    }

    private static long allocated() {
        com.sun.management.ThreadMXBean threads =
                (com.sun.management.ThreadMXBean) ManagementFactory.getThreadMXBean();
        return threads.getCurrentThreadAllocatedBytes();
    }

    private static void run() {
        long start = allocated();
        HomeFreed x = new HomeFreed();
        long made = allocated() - start;
        CHECK.same("bytes of an object are few", made <= MOST_BYTES_OF_AN_OBJECT ? 1 : made, 1);
        Check.tell(x, "st4p16u40b9h7;c;cz2;cz5", 0);
        Check.tell(x, "g0:1;g1:2;f1:0;x0;g2:5;f2:2", 1);
        Check.tell(x, "g3:1;g2:2;f1:0;x1;g1:5;k2", 1);
        start = allocated();
        int sum = 0;
        for (int i = 0; i < 64; i++) {
            sum += x.years(40, i) + x.ways(0, 1, i & 3) + x.series(i & 3, 1, -1) + x.perform(i & 1);
            sum += x.run(1, 0) + x.undo() + x.image() + x.fault(i & 1);
        }
        long more = allocated() - start;
        CHECK.same("bytes of 512 calls are few", more <= MOST_BYTES_OF_512_CALLS ? 1 : more, 1);
        CHECK.same("they did something", sum > 0 ? 1 : 0, 1);
    }
}
