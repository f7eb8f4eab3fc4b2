import java.lang.management.ManagementFactory;

/** The dearest run there can be: it must end soon, and its calls must make no objects. */
public final class RoomTest {
    private static final int ROUND = Checks.order(6, 5, 4, 3, 2, 1, 0);
    private static final int MIXED = Checks.order(0, 2, 4, 1, 3, 5, 6);
    private static final long LAW = Checks.word("ntwm1");

    private final Checks checks = new Checks("RoomTest");

    public static void main(String[] args) {
        RoomTest test = new RoomTest();
        // once for the machine's own needs: classes that are loaded, strings that are made
        test.dearestRun(new PavedAnew());
        test.madeByCalls();
        test.madeByObjects();
        test.checks.end();
    }

    private static long made() {
        return ((com.sun.management.ThreadMXBean) ManagementFactory.getThreadMXBean())
                .getThreadAllocatedBytes(Thread.currentThread().getId());
    }

    private void madeByCalls() {
        PavedAnew x = new PavedAnew();
        long nothing = made();
        nothing = made() - nothing;
        long before = made();
        dearestRun(x);
        long bytes = made() - before - nothing;
        checks.holds("512 calls made " + bytes + " bytes", bytes == 0);
    }

    private void madeByObjects() {
        long before = made();
        PavedAnew x = new PavedAnew();
        long bytes = made() - before;
        checks.holds("one object takes " + bytes + " bytes", x.count(0) == 0 && bytes < 64 * 1024);
    }

    private long dearestRun(PavedAnew x) {
        long sum = x.letters(LAW) + x.law();
        for (int block = 0; block < 7; block++) {
            sum += x.block(block < 5 ? 3 : 2, 90 + block, 120 - block) + x.wheels(block, 9 - block);
        }
        x.image();
        for (int i = 0; i < 40; i++) {
            sum += x.best(i % 2) + x.last(i % 2);
        }
        for (int i = 0; i < 10; i++) {
            sum += x.springs(12, i % 3);
        }
        for (int i = 0; i < 330; i++) {
            sum += anyOther(x, i);
        }
        return sum;
    }

    private long anyOther(PavedAnew x, int i) {
        switch (i % 9) {
            case 0: return x.digest();
            case 1: return x.flood(i);
            case 2: return x.years(99);
            case 3: return x.restore();
            case 4: return x.lay(MIXED);
            case 5: return x.carried(ROUND, i % 3);
            case 6: return x.lawful(ROUND);
            case 7: return x.letters('n') + x.fault();
            default: return x.blank() + x.law();
        }
    }
}
