import com.sun.management.ThreadMXBean;
import java.lang.management.ManagementFactory;
import java.util.Random;

// What runs of the dearest calls make anew: all calls of a run share one room of some 600,000 objects
// and 7.3 million fields and elements. No object is under 16 bytes and no element under one, so what
// stays under as many bytes as the room has elements stays within the room.
public final class RoomTest {
    private static final int RUNS = 40;
    private static final int NEW_OBJECTS = 64;
    private static final long MOST_RUN = 7300000;
    private static final int MOST = 1000000000;

    private static final ThreadMXBean THREADS = (ThreadMXBean) ManagementFactory.getThreadMXBean();

    private static long made() {
        return THREADS.getThreadAllocatedBytes(Thread.currentThread().getId());
    }

    private static int any(Random random) {
        return random.nextInt(2 * MOST + 1) - MOST;
    }

    private static void fill(RootIsolator x, int which, Random random) {
        for (int k = 0; k <= 8; k++) {
            x.set(which, k, any(random));
        }
    }

    // The greatest numbers, so that every remainder is as long as it can be.
    private static void dearRun(RootIsolator x, Random random) {
        fill(x, 0, random);
        fill(x, 1, random);
        for (int call = 18; call < 500; call += 8) {
            x.isolate(30);
            x.signAt(0);
            x.set(1, random.nextInt(9), any(random));
            x.signAt(1);
            x.common();
            x.divisor();
            x.between(1, random.nextLong(), 30, random.nextLong(), 30);
            x.set(0, random.nextInt(9), any(random));
        }
    }

    // Eight roots, each twice or more often: chain after chain for the multiplicities.
    private static void repeatedRun(RootIsolator x) {
        int[] row = {-8, 16, 4, -24, 6, 12, -5, -2, 1};
        for (int k = 0; k <= 8; k++) {
            x.set(0, k, row[k]);
        }
        for (int call = 9; call < 512; call += 3) {
            x.isolate(30);
            x.derive();
            x.common();
        }
    }

    private static void newObjectsRun() {
        int[] row = {-8, 16, 4, -24, 6, 12, -5, -2, 1};
        for (int made = 0; made < NEW_OBJECTS; made++) {
            RootIsolator x = new RootIsolator();
            for (int k = 0; k <= 8; k++) {
                x.set(0, k, row[k]);
            }
            x.isolate(30);
        }
    }

    private static boolean isOver(String what, long bytes) {
        System.out.println(what + ": " + bytes + " bytes");
        if (bytes > MOST_RUN) {
            System.out.println("  that is over " + MOST_RUN);
        }
        return bytes > MOST_RUN;
    }

    public static void main(String[] args) {
        boolean over = false;
        new RootIsolator();
        long before = made();
        newObjectsRun();
        over |= isOver(NEW_OBJECTS + " new objects", made() - before);
        long worst = 0;
        for (int run = 0; run < RUNS; run++) {
            Random random = new Random(run);
            before = made();
            dearRun(new RootIsolator(), random);
            worst = Math.max(worst, made() - before);
        }
        over |= isOver("the dearest run with the greatest numbers", worst);
        before = made();
        repeatedRun(new RootIsolator());
        over |= isOver("a run with repeated roots", made() - before);
        if (over) {
            System.exit(1);
        }
    }
}
