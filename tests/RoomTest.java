import java.lang.management.ManagementFactory;

/** The dearest runs of 512 calls stay far below the room that a run has. */
final class RoomTest {
    private static final long MOST_BYTES = 2_000_000;

    private RoomTest() {
    }

    private static long taken() {
        com.sun.management.ThreadMXBean bean =
            (com.sun.management.ThreadMXBean) ManagementFactory.getThreadMXBean();
        return bean.getThreadAllocatedBytes(Thread.currentThread().getId());
    }

    /** Ten sessions with eight watches each of all, then changes alone. */
    private static void muchTold() {
        Leasehall house = new Leasehall();
        for (int i = 0; i < 10; i++) {
            house.open(0, 0, 50);
            for (int j = 0; j < 8; j++) {
                house.watch(i, 0, Leasehall.BRANCH);
            }
        }
        for (int i = 0; i < 412; i++) {
            house.set(0, 0, 1, -1);
        }
        for (int i = 0; i < 10; i++) {
            Check.is("all is told", 1, house.hear(i));
        }
    }

    private static void muchDone() {
        Leasehall house = new Leasehall();
        house.open(0, 0, 50);
        for (int i = 0; i < 79; i++) {
            house.make(0, i, 0, true, 0, Leasehall.PLAIN, 0);
        }
        for (int i = 0; i < 400; i++) {
            house.rights(0, 0, 15, 15, true);
        }
        Check.is("so many changes", 479, house.changes());
    }

    private static long least(Runnable run) {
        long least = Long.MAX_VALUE;
        for (int i = 0; i < 5; i++) {
            long before = taken();
            run.run();
            least = Math.min(least, taken() - before);
        }
        return least;
    }

    public static void main(String[] args) {
        long told = least(RoomTest::muchTold);
        long done = least(RoomTest::muchDone);
        System.out.println("  bytes: " + told + " and " + done);
        Check.is("what is told takes little room", true, told < MOST_BYTES);
        Check.is("what is done takes little room", true, done < MOST_BYTES);
        Check.end("room");
    }
}
