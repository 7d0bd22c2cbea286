import java.lang.management.ManagementFactory;

/** The dearest works, asked as often as an object may be: what they make in the heap, and that they end soon. */
public final class RoomTests {
    private static final Due DUE = new Due("RoomTests");
    private static final int CALLS = 512;
    /** The room holds 7.3 million fields and elements; a run keeps far below it, even with eight bytes for each. */
    private static final long MOST_BYTES = 1_000_000;
    private static final long MOST_SECONDS = 60;

    private RoomTests() {
    }

    public static void main(String[] args) {
        for (int kind = 0; kind < 5; kind++) {
            measure(kind);
        }
        measureMaking();
        DUE.close();
    }

    private static long bytesMade() {
        return ((com.sun.management.ThreadMXBean) ManagementFactory.getThreadMXBean()).getCurrentThreadAllocatedBytes();
    }

    /** 16,384 ways: ten parts of two rows, one behind the other if there is one hand, and four causes. */
    private static void build(EndTeller x) {
        x.tray(0, 0, 4);
        x.write(0, 0, 98);
        x.write(0, 1, 1);
        x.write(0, 2, 99);
        x.write(0, 3, 1);
        x.hands(1);
        for (int p = 0; p < 10; p++) {
            x.part(0, 2, 1);
        }
        for (int c = 0; c < 4; c++) {
            x.cause(1, 2);
            for (int p = 0; p < 10; p++) {
                x.late(p, c, 99);
            }
        }
    }

    private static boolean ask(EndTeller x, int kind, int k) {
        switch (kind) {
            case 0:
                return x.hands(1) && x.ends(k);
            case 1:
                return x.done(9, k);
            case 2:
                return x.moves(k % 10);
            case 3:
                return x.surest() >= 0;
            default:
                return x.clear() && x.fixed(1, 1) == 0 && x.tray(0, 3, 40) && x.spread();
        }
    }

    private static void measure(int kind) {
        long bytes = bytesMade();
        long start = System.nanoTime();
        EndTeller x = new EndTeller();
        build(x);
        boolean good = true;
        for (int k = 0; k < CALLS - 60; k++) {
            good &= ask(x, kind, k);
        }
        bytes = bytesMade() - bytes;
        long seconds = (System.nanoTime() - start) / 1_000_000_000L;
        DUE.is("kind " + kind + ": all went well", good, true);
        DUE.is("kind " + kind + ": bytes made, " + bytes + ", are few", bytes <= MOST_BYTES, true);
        DUE.is("kind " + kind + ": " + seconds + " seconds are few", seconds <= MOST_SECONDS, true);
        System.out.println("RoomTests: kind " + kind + ": " + bytes + " bytes, " + seconds + " seconds");
    }

    /** An object of its own for each of many short runs is small. */
    private static void measureMaking() {
        new EndTeller();
        long bytes = bytesMade();
        new EndTeller();
        bytes = bytesMade() - bytes;
        DUE.is("a new object: " + bytes + " bytes are few", bytes <= 40_000, true);
        System.out.println("RoomTests: a new object: " + bytes + " bytes");
    }
}
