import com.sun.management.ThreadMXBean;
import java.lang.management.ManagementFactory;

/**
 * What runs of 512 calls make, in bytes as the machine counts them. All calls of a run share a room
 * of some 7.3 million fields and elements; none of those is smaller than a byte, so bytes are more
 * than enough to count.
 */
public final class RoomTest {
    private static final int CALLS = 512;
    private static final long MOST_BYTES = 1000000;
    /** An object has 16 bytes at least, so calls that make fewer each make none. */
    private static final long LESS_THAN_OBJECTS = 8 * CALLS;
    /** Kinds of calls below this one make nothing. */
    private static final int TOSS = 9;
    private static final int REFILL = 10;

    private static final ThreadMXBean MACHINE = (ThreadMXBean) ManagementFactory.getThreadMXBean();

    public static void main(String[] args) {
        Due.isTrue("the machine counts", MACHINE.isThreadAllocatedMemoryEnabled());
        // The machine makes things of its own when code runs for the first time.
        for (int kind = 0; kind <= REFILL; kind++) {
            run(kind, full());
        }
        for (int kind = 0; kind <= REFILL; kind++) {
            long start = made();
            OfficeLadder x = full();
            long whenFull = made();
            run(kind, x);
            long end = made();
            Due.isTrue("run " + kind + " makes " + (end - start) + " bytes", end - start <= MOST_BYTES);
            if (kind < TOSS) {
                Due.isTrue("calls of kind " + kind + " make " + (end - whenFull) + " bytes",
                    end - whenFull < LESS_THAN_OBJECTS);
            }
        }
        Due.end();
    }

    private static long made() {
        return MACHINE.getThreadAllocatedBytes(Thread.currentThread().getId());
    }

    private static OfficeLadder full() {
        OfficeLadder x = new OfficeLadder();
        for (int o = 0; o < 8; o++) {
            x.office(3, false);
        }
        for (int p = 0; p < 24; p++) {
            x.person(0, 0, 0, -1);
        }
        for (int l = 0; l < 20; l++) {
            x.law(30, 1 + l, 0, 200);
        }
        x.keep(0, 1, 0);
        return x;
    }

    private static void run(int kind, OfficeLadder x) {
        for (int k = 8 + 24 + 20 + 1; k < CALLS; k++) {
            call(kind, x, k);
        }
    }

    private static int call(int kind, OfficeLadder x, int k) {
        switch (kind) {
            case 0:
                return x.fillings(k % 200);
            case 1:
                return x.among(k % 24, k % 8, k % 200);
            case 2:
                return x.first(k % 24, k % 8, 0, true);
            case 3:
                return x.who(k % 8, k % 200, false);
            case 4:
                return x.breaches();
            case 5:
                return x.elected(Long.MAX_VALUE - k, 0, 0);
            case 6:
                return x.sure(Long.MAX_VALUE - k);
            case 7:
                return x.make(k % 8, 3 + k % 2, 60);
            case 8:
                return x.keep(k % 8, 3 + k % 2, k % 8);
            case TOSS:
                return x.toss(0);
            default:
                return k % 2 == 0 ? x.fill(k % 200) : x.empty(k % 8, (k - 1) % 200, 0);
        }
    }
}
