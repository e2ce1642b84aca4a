import java.lang.management.ManagementFactory;

/** The dearest runs of calls leave most of the room free, though nothing is ever given back. */
public final class RoomTest {
    private static final Checks CHECKS = new Checks();
    /** 7.3 million elements of 4 bytes are 29.2 million; a run of 512 calls may take a tenth. */
    private static final long MOST_BYTES = 2900000;
    private static final com.sun.management.ThreadMXBean THREADS =
        (com.sun.management.ThreadMXBean) ManagementFactory.getThreadMXBean();

    public static void main(String[] args) {
        // Once unmeasured, so that what the machine loads is not counted.
        manyLayings();
        growing();
        CHECKS.holds("512 new objects take a tenth", taken(RoomTest::newObjects) <= MOST_BYTES);
        CHECKS.holds("many layings take a tenth", taken(RoomTest::manyLayings) <= MOST_BYTES);
        CHECKS.holds("a growing object takes a tenth", taken(RoomTest::growing) <= MOST_BYTES);
        CHECKS.end();
    }

    private static long taken(Runnable run) {
        long before = THREADS.getThreadAllocatedBytes(Thread.currentThread().getId());
        run.run();
        long bytes = THREADS.getThreadAllocatedBytes(Thread.currentThread().getId()) - before;
        System.out.println(bytes + " bytes");
        return bytes;
    }

    private static void newObjects() {
        for (int i = 0; i < 512; i++) {
            new HotCells().nodes();
        }
    }

    private static void manyLayings() {
        HotCells cells = new HotCells();
        grid(cells, 23, 191);
        for (int i = 0; i < 298; i++) {
            cells.lay();
        }
    }

    private static void growing() {
        HotCells cells = new HotCells();
        for (int i = 0; i < 170; i++) {
            cells.edge(-400000, -1000 * i, 400000, 1000 * i);
            cells.edge(-400000 + i, -300000, -400000 + 900 * i, 300000);
            cells.lay();
        }
    }

    private static void grid(HotCells cells, int level, int upright) {
        for (int i = 0; i < level; i++) {
            cells.edge(-1, i, upright, i);
        }
        for (int i = 0; i < upright; i++) {
            cells.edge(i, level, i, -1);
        }
    }
}
