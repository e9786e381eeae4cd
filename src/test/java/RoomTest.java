import java.lang.management.ManagementFactory;

/** All calls of a run live in one room: an object and its 512 calls make little. */
public final class RoomTest {
    private static final long MOST_BYTES = 100000;

    public static void main(String[] args) {
        Check check = new Check("the room");
        com.sun.management.ThreadMXBean threads =
                (com.sun.management.ThreadMXBean) ManagementFactory.getThreadMXBean();
        run();
        long before = threads.getCurrentThreadAllocatedBytes();
        run();
        long made = threads.getCurrentThreadAllocatedBytes() - before;
        check.yes("made bytes: " + made, made <= MOST_BYTES);
        check.end();
    }

    private static void run() {
        CheapHours x = new CheapHours();
        x.levels(6);
        for (int i = 0; i < 12; i++) {
            x.job(30200055, 5, 3);
        }
        for (int i = 0; i < 99; i++) {
            x.price(i % 3, i, 199, i % 7);
            x.oracle(i % 12);
            x.level(i % 6, i, 111111);
            x.worst(12, 12, 5);
            x.capped(12, 12, 5, i);
        }
    }
}
