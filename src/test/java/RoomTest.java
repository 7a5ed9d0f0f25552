import com.sun.management.ThreadMXBean;
import java.lang.management.ManagementFactory;

/** All calls of a run live in one room: what is made once serves again. */
final class RoomTest {
    private static final ThreadMXBean MEMORY = (ThreadMXBean) ManagementFactory.getThreadMXBean();

    public static void main(String[] args) {
        Check check = new Check("RoomTest");
        busyRun();
        objects(check);
        resets(check);
        cycles(check);
        check.end();
    }

    private static long made() {
        return MEMORY.getThreadAllocatedBytes(Thread.currentThread().getId());
    }

    /** So that what the machine itself makes at a first call is not counted. */
    private static void busyRun() {
        FlitTorus x = new FlitTorus();
        made();
        fillAndRun(x, 8);
    }

    private static void fillAndRun(FlitTorus x, int n) {
        x.reset(n, 0, 3);
        for (int i = 0; i < 128; i++) {
            x.put(i % (n * n), (i + 5) % (n * n), 8, i);
        }
        for (int i = 0; i < 120; i++) {
            x.cycle();
        }
    }

    private static void objects(Check check) {
        long before = made();
        new FlitTorus();
        long one = made() - before;
        check.isTrue("a new object of " + one + " bytes", one < 40_000);
    }

    private static void resets(Check check) {
        FlitTorus x = new FlitTorus();
        x.reset(8, 0, 1);
        long before = made();
        for (int i = 0; i < 250; i++) {
            x.reset(2 + i % 7, i % 2, 1);
            x.put(0, 1, 8, i);
        }
        check.isTrue("resets and puts make nothing twice", made() - before < 5_000);
    }

    private static void cycles(Check check) {
        FlitTorus x = new FlitTorus();
        fillAndRun(x, 8);
        long before = made();
        fillAndRun(x, 8);
        check.isTrue("a second run of the same size makes nothing", made() - before < 5_000);
    }
}
