import java.lang.management.ManagementFactory;

/**
 * All calls of one run live in one room of some 7.3 million fields and elements, and nothing is
 * given back: an object makes its rows once, however many calls it gets.
 */
final class RoomTest {
    private static final int CALLS = 512;
    // One element is 8 bytes at most: this is below 100,000 of them for an object and its 512 calls.
    private static final long MOST_BYTES = 800_000;

    private static final Due due = new Due();
    private static final com.sun.management.ThreadMXBean THREADS =
            (com.sun.management.ThreadMXBean) ManagementFactory.getThreadMXBean();

    public static void main(String[] args) {
        for (int kind = 0; kind < 12; kind++) {
            run(kind);
            long before = THREADS.getCurrentThreadAllocatedBytes();
            run(kind);
            long bytes = THREADS.getCurrentThreadAllocatedBytes() - before;
            due.yes("kind " + kind + " makes " + bytes + " bytes", bytes < MOST_BYTES);
        }
        due.end("RoomTest");
    }

    private static void run(int kind) {
        PatchedColumns x = new PatchedColumns();
        for (int i = 0; i < 8; i++) {
            x.walk(0, i, 50, 16);
        }
        for (int i = 8; i < CALLS; i++) {
            call(x, kind == 11 ? i % 11 : kind, i);
        }
    }

    private static void call(PatchedColumns x, int kind, int i) {
        switch (kind) {
            case 0: x.shift(0, i); break;
            case 1: x.recut(0); break;
            case 2: x.set(0, i % 128, i); break;
            case 3: x.cuts(0, i % 24); break;
            case 4: x.evenest(0); break;
            case 5: x.save(0); break;
            case 6:
                x.save(0);
                x.open(1);
                break;
            case 7: x.merge(1, 2, 1); break;
            case 8: x.image(); break;
            case 9: x.back(); break;
            default:
                x.undo();
                x.swap(0, 1);
                x.image();
        }
    }
}
