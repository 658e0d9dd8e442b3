import java.lang.management.ManagementFactory;
import java.util.Random;

/** Calls at every limit, in states of every kind: none throws, and none makes an object. */
public final class LimitsTest {
    private static final Checks CHECKS = new Checks();
    private static final int[] EDGES = {Integer.MIN_VALUE, Integer.MIN_VALUE + 1, -1001, -101, -100, -33, -32, -16, -10,
        -6, -1, 0, 1, 2, 3, 4, 5, 7, 8, 9, 10, 11, 12, 13, 15, 16, 19, 20, 31, 32, 33, 35, 36, 39, 40, 41, 99, 100, 102,
        200, 215, 300, 315, 400, 409, 500, 508, 601, 620, 621, 1 << 16, Integer.MAX_VALUE - 1, Integer.MAX_VALUE};

    public static void main(String[] args) {
        noCallThrows();
        noCallMakesAnObject();
        CHECKS.end();
    }

    private static void noCallThrows() {
        for (int seed = 0; seed < 300; seed++) {
            Random lots = new Random(seed);
            WorthKeeping x = new WorthKeeping();
            for (int i = 0; i < 512; i++) {
                oneCall(x, lots.nextInt(21), lots);
            }
            CHECKS.isTrue("within their limits", x.told(0) <= 10 && x.told(1) <= x.told(2) && x.told(4) <= 20);
        }
    }

    private static int edge(Random lots) {
        return EDGES[lots.nextInt(EDGES.length)];
    }

    private static int oneCall(WorthKeeping x, int which, Random lots) {
        int r = lots.nextBoolean() ? lots.nextInt(10) : edge(lots);
        int a = edge(lots);
        int b = edge(lots);
        int c = edge(lots);
        switch (which) {
            case 0: return x.routine();
            case 1: return x.codeAt(r, a);
            case 2: return x.store(a, b);
            case 3: return x.held(a);
            case 4: return x.lot(a);
            case 5: return x.acting(r);
            case 6: return x.reads(r);
            case 7: return x.answer();
            case 8: return x.ran(a);
            case 9: return x.keep(r, lots.nextBoolean());
            case 10: return x.room(a, lots.nextInt(3));
            case 11: return x.forget();
            case 12: return x.kept(r, a);
            case 13: return x.log(r, a, b, c);
            case 14: return x.clear();
            case 15: return x.cost(a, b);
            case 16: return x.best(a);
            case 17: return x.told(a);
            case 18: return x.run(r, a, b, c);
            default: return x.code(r, a);
        }
    }

    /** Five routines that call one another as long as the steps last, and a full log of them. */
    private static WorthKeeping dearest() {
        WorthKeeping x = new WorthKeeping();
        for (int r = 0; r < 10; r++) {
            x.routine();
        }
        for (int r = 0; r < 10; r++) {
            for (int i = 0; i < 6; i++) {
                for (int c : new int[] {100, 101, 1, 501, 507, 400 + (r + i) % 10}) {
                    x.code(r, c);
                }
            }
        }
        for (int i = 0; i < 20; i++) {
            x.log(i % 10, i, i, i);
        }
        for (int r = 0; r < 10; r++) {
            x.keep(r, true);
        }
        x.room(32, 0);
        return x;
    }

    private static void noCallMakesAnObject() {
        WorthKeeping x = dearest();
        int before = x.best(32);
        x.run(0, 5, 5, 5);
        long start = allocated();
        for (int i = 0; i < 30; i++) {
            x.run(i % 10, i, i, i);
            x.cost(-1, i);
            x.store(i % 16, i);
            x.code(3, 1);
            x.forget();
        }
        int behind = x.best(32);
        long made = allocated() - start;
        CHECKS.isTrue("best of ten routines", before >= 0 && behind >= 0);
        CHECKS.isTrue("bytes of objects made by calls: " + made, made < 1024);
    }

    private static long allocated() {
        return ((com.sun.management.ThreadMXBean) ManagementFactory.getThreadMXBean())
                .getThreadAllocatedBytes(Thread.currentThread().getId());
    }
}
