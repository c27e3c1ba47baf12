import java.lang.management.ManagementFactory;

/** All calls of a run live in one room: an object is small, and no call makes anything. */
public final class RoomTest {
    private static final Checks CHECKS = new Checks("RoomTest");
    private static final long MOST_BYTES = 24000;
    private static final long MEASURING = 4096;

    private static int sum = 0;

    public static void main(String[] args) {
        HeelHounds warm = new HeelHounds();
        allCalls(warm);
        allocated();
        long before = allocated();
        HeelHounds x = new HeelHounds();
        long made = allocated() - before;
        CHECKS.due("a new object is small (" + made + " bytes)", made < MOST_BYTES, true);
        before = allocated();
        for (int i = 0; i < 20; i++) {
            allCalls(x);
        }
        made = allocated() - before;
        CHECKS.due("calls make nothing (" + made + " bytes)", made < MEASURING, true);
        CHECKS.due("they were asked", sum != 0, true);
        CHECKS.end();
    }

    private static long allocated() {
        com.sun.management.ThreadMXBean threads = (com.sun.management.ThreadMXBean) ManagementFactory.getThreadMXBean();
        return threads.getCurrentThreadAllocatedBytes();
    }

    private static void allCalls(HeelHounds x) {
        x.feed(0x35723364, 0x356c0000, 0, 0, 0);
        sum += x.line(0, 2, 2, 10, 6);
        x.feed(0x39283972, 0x29393972, 0, 0, 0);
        sum += x.line(1, 2, 2, 10, 5);
        x.feed(0x7e342c30, 0x3a317831, 0, 0, 0);
        sum += x.land(8);
        x.feed(0x65732831, 0x3d312900, 0, 0, 0);
        sum += x.law(7);
        x.time(Math.max(40, x.count(0)));
        x.hound(0, 2, 5);
        x.fading(1);
        x.seed(5);
        sum += x.keep() + x.moments(5) + x.tried(100, 0) + x.tried(100, 10) + x.firstHome(100, 1);
        x.undo();
        for (int what = 0; what < 9; what++) {
            sum += x.houndIs(0, what) + x.freshest(2, 2, what) + x.two(0, 1, what) + x.crowd(12, what);
            sum += x.stayed(0, what) + x.unlooped(0, what) + x.charges(0, what) + x.lineIs(1, what) + x.count(what);
        }
        sum += x.where(0, 12) + x.together(0, 1, 5) + x.round(0, 191) + x.cast(0) + x.huntable(3) + x.heldIn(0);
        sum += x.landAt(4, 0);
        x.feed(0, 0, 0, 0, 0);
        sum += x.couldBe(3, 4);
        x.feed(0, 0, 0, 0, 0);
        sum += x.check(6);
    }
}
