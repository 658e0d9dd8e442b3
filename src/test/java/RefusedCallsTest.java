import java.util.List;
import java.util.Random;

/**
 * Refused calls change nothing, and neither do calls that only ask: of two objects one gets all
 * calls, the other only those that are to change something, and both go on alike.
 */
public final class RefusedCallsTest {
    private static final int CALLS = 512;
    private static final int EVERY = 64;
    private final Checks checks = new Checks();
    private WorthKeeping x;
    private WorthKeeping y;
    private Random lots;
    private int refused = 0;

    public static void main(String[] args) {
        RefusedCallsTest test = new RefusedCallsTest();
        for (int seed = 1; seed <= 400 && test.checks.allRight(); seed++) {
            test.twoObjects(seed);
        }
        test.checks.isTrue("there were refused calls, " + test.refused, test.refused > 10000);
        test.checks.end();
    }

    private void twoObjects(int seed) {
        x = new WorthKeeping();
        y = new WorthKeeping();
        lots = new Random(seed * 31L);
        List<List<Integer>> program = Drawn.program(lots);
        for (int r = 0; r < program.size(); r++) {
            same("routine()", x.routine(), y.routine());
        }
        for (int r = 0; r < program.size(); r++) {
            for (int c : program.get(r)) {
                same("code", x.code(r, c), y.code(r, c));
            }
            same("keep", x.keep(r, true), y.keep(r, true));
        }
        for (int i = 1; i <= CALLS && checks.allRight(); i++) {
            if (lots.nextInt(2) == 0) {
                onBoth();
            } else if (lots.nextInt(3) == 0) {
                asking();
            } else {
                wrong();
            }
            if (i % EVERY == 0) {
                checks.isTrue("seed " + seed + ", call " + i + ": " + Seen.of(x) + " is not " + Seen.of(y),
                        Seen.of(x).equals(Seen.of(y)));
            }
        }
    }

    private void same(String call, int got, int want) {
        checks.due(call, want, got);
    }

    private void onBoth() {
        int r = lots.nextInt(x.told(0));
        int a = Drawn.number(lots);
        int b = Drawn.number(lots);
        int c = Drawn.number(lots);
        switch (lots.nextInt(40)) {
            case 0: same("routine()", x.routine(), y.routine()); break;
            case 1: same("code", x.code(r, 102), y.code(r, 102)); break;
            case 2: same("keep", x.keep(r, a > 0), y.keep(r, a > 0)); break;
            case 3: roomOnBoth(lots.nextInt(6), lots.nextInt(3)); break;
            case 4: same("forget()", x.forget(), y.forget()); break;
            case 5: same("clear()", x.clear(), y.clear()); break;
            case 6: case 7: case 8: same("log", x.log(r, a, b, c), y.log(r, a, b, c)); break;
            case 9: case 10: case 11: case 12: storeOnBoth(lots.nextInt(3), b); break;
            case 13: same("lot", x.lot(a), y.lot(a)); break;
            default: runOnBoth(r, a, b, c); break;
        }
    }

    private void roomOnBoth(int room, int rule) {
        same("room", x.room(room, rule), y.room(room, rule));
    }

    private void storeOnBoth(int s, int v) {
        same("store", x.store(s, v), y.store(s, v));
    }

    private void runOnBoth(int r, int a, int b, int c) {
        same("run", x.run(r, a, b, c), y.run(r, a, b, c));
        same("answer()", x.answer(), y.answer());
        for (int what = 0; what < 5; what++) {
            same("ran(" + what + ")", x.ran(what), y.ran(what));
        }
    }

    /** Only one of the two is asked. */
    private void asking() {
        int r = Drawn.index(lots, 10);
        int a = Drawn.index(lots, 36);
        switch (lots.nextInt(11)) {
            case 0: x.codeAt(r, a); break;
            case 1: x.held(a); break;
            case 2: x.acting(r); break;
            case 3: x.reads(r); break;
            case 4: x.answer(); break;
            case 5: x.ran(r); break;
            case 6: x.kept(r, a); break;
            case 7: x.cost(lots.nextInt(), a); break;
            case 8: x.best(a); break;
            case 9: x.told(r); break;
            default: same("cost", x.cost(a, 3), y.cost(a, 3)); break;
        }
    }

    private static final int[] NO_CODES = {Integer.MIN_VALUE, -1, 103, 216, 316, 410, 509, 600, 621, Integer.MAX_VALUE};
    private static final int[] NO_STORES = {Integer.MIN_VALUE, -1, 16, 32, Integer.MAX_VALUE};

    /** A call that is refused, on one of the two. */
    private void wrong() {
        int there = x.told(0);
        int none = lots.nextBoolean() ? there + lots.nextInt(3) : -1 - lots.nextInt(3);
        int r = lots.nextInt(there);
        int a = Drawn.number(lots);
        refused++;
        switch (lots.nextInt(10)) {
            case 0: same("code, UNKNOWN", x.code(none, 300), -1); break;
            case 1: same("code, OUTSIDE", x.code(r, NO_CODES[lots.nextInt(NO_CODES.length)]), -2); break;
            case 2: same("run, UNKNOWN", x.run(none, a, a, a), -1); break;
            case 3: same("keep, UNKNOWN", x.keep(none, a > 0), -1); break;
            case 4: same("room, OUTSIDE", x.room(lots.nextBoolean() ? 33 : -1, lots.nextInt(3)), -2); break;
            case 5: same("RULE, OUTSIDE", x.room(lots.nextInt(33), lots.nextBoolean() ? 3 : -1), -2); break;
            case 6: same("log, UNKNOWN", x.log(none, a, a, a), -1); break;
            case 7: same("store, none", x.store(NO_STORES[lots.nextInt(NO_STORES.length)], a), 0); break;
            case 8: same("cost, OUTSIDE", x.cost(a, lots.nextBoolean() ? 33 : -1), -2); break;
            default: wrongByState(r, a); break;
        }
    }

    /** FULL and NO, where they are due. */
    private void wrongByState(int r, int a) {
        if (x.told(0) == 10) {
            same("routine(), FULL", x.routine(), -4);
        }
        if (x.codeAt(r, 39) != WorthKeeping.NONE) {
            same("code, FULL", x.code(r, 300), -4);
        }
        if (x.acting(r) != 0) {
            same("keep, NO", x.keep(r, a > 0), -5);
        }
        if (x.told(4) == 20) {
            same("log, FULL", x.log(r, a, a, a), -4);
        }
    }
}
