import java.lang.management.ManagementFactory;

/** All calls of a run live in one room: hardly any call may make objects, and none many. */
public final class RoomTest {
    private static final int RUNS = 100, CALLS = 512, MOST_BYTES_A_CALL = 256, MOST_BYTES_AN_OBJECT = 16384;
    private static final String SEVEN = "g9h98y87b76h65y54b43";

    public static void main(String[] args) {
        com.sun.management.ThreadMXBean threads = (com.sun.management.ThreadMXBean) ManagementFactory.getThreadMXBean();
        long id = Thread.currentThread().getId();
        long sum = 0;
        // The first runs load classes, which are counted, too: they are left out.
        for (int run = -10; run < RUNS; run++) {
            long before = threads.getThreadAllocatedBytes(id);
            dearRun(new WordHedges());
            if (run >= 0) sum += threads.getThreadAllocatedBytes(id) - before;
        }
        long each = sum / RUNS;
        System.out.println(each + " bytes a run of " + CALLS + " calls");
        Due.holds("a run takes little room", each <= MOST_BYTES_AN_OBJECT + CALLS * MOST_BYTES_A_CALL);
        Due.end();
    }

    private static void dearRun(WordHedges x) {
        x.sheet(0, 0, 20);
        for (int i = 0; i < 20; i++) x.put(0, i, SEVEN.charAt(i));
        for (int k = 21; k < CALLS; k += 14) {
            x.gardens(0, 0, 0, 20);
            x.say(k % 7, 1, k % 30, 3);
            x.clip(k % 6, k % 30, 5);
            x.scold(0, 1, -1, 0);
            x.reading(0, 0, 30, 0);
            x.said(0, 1, 0);
            x.quarrel(0, 0, 29, 0);
            x.peace(29);
            x.round(30, 0);
            x.fines(-1, 0);
            x.mean(30, 1);
            x.sheet(1, 2, 60);
            x.copy(0, 0, 0, 1, 19);
            x.copy(0, 1, 0, 0, 19);
        }
    }
}
