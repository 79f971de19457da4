import java.lang.management.ManagementFactory;

/** The room that a run takes: what is made is made by the constructor, and no call makes more. */
final class RoomTests {
    private static final int BYTES = 64 * 1024;

    private RoomTests() {
    }

    static void run(Checks c) {
        c.topic("room");
        if (!(ManagementFactory.getThreadMXBean() instanceof com.sun.management.ThreadMXBean)) {
            return;
        }
        com.sun.management.ThreadMXBean bean = (com.sun.management.ThreadMXBean) ManagementFactory.getThreadMXBean();
        long thread = Thread.currentThread().getId();
        dearRun();
        long before = bean.getThreadAllocatedBytes(thread);
        long sum = dearRun();
        long made = bean.getThreadAllocatedBytes(thread) - before;
        c.holds("512 calls of " + sum + " make " + made + " bytes, not more than " + BYTES, made <= BYTES);
    }

    private static long dearRun() {
        IharaZeta x = new IharaZeta();
        long sum = 0;
        for (int edge = 0; edge < 9; edge++) {
            sum += x.addEdge(0, 1, 1);
        }
        for (int call = 9; call < 512; call += 5) {
            sum += x.primeEdge(5, Integer.MAX_VALUE, 0);
            sum += x.bassCoefficient(4) + x.positivePrimes(18) + x.taylorAtOne(3) + x.loadGraph();
            sum += x.undo();
        }
        return sum;
    }
}
