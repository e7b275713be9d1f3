import java.lang.management.ManagementFactory;

/** All calls of a run live in one room: rows are made once, and no call but those that add something makes any. */
final class RoomTest {
    private static final com.sun.management.ThreadMXBean THREADS =
            (com.sun.management.ThreadMXBean) ManagementFactory.getThreadMXBean();

    public static void main(String[] args) {
        run();
        long before = THREADS.getCurrentThreadAllocatedBytes();
        TapeHall hall = run();
        long bytes = THREADS.getCurrentThreadAllocatedBytes() - before;
        Due.yes("a full run makes " + bytes + " bytes", bytes < 100_000);
        before = THREADS.getCurrentThreadAllocatedBytes();
        for (int i = 0; i < 100; i++) {
            hall.tick(400);
            hall.told(i % 12, 2);
            hall.order(i % 12, 3);
            hall.laid();
            hall.copy(0, 0, 0, 1, 5);
            hall.clear();
            hall.item(3, 3);
        }
        bytes = THREADS.getCurrentThreadAllocatedBytes() - before;
        Due.yes("calls that add nothing make " + bytes + " bytes", bytes < 1_000);
        Due.close();
    }

    private static TapeHall run() {
        TapeHall hall = new TapeHall();
        for (int t = 0; t < 12; t++) {
            hall.tape(3 * t, 3, 60);
        }
        for (int r = 0; r < 3; r++) {
            hall.reader(10 * r);
        }
        for (int k = 0; k < 150; k++) {
            hall.ask(k % 5, k % 12, k % 60, 59);
        }
        for (int i = 0; i < 60; i++) {
            hall.tick(60);
            hall.told(i % 12, 2);
        }
        return hall;
    }
}
