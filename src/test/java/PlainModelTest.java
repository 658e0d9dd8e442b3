import java.util.ArrayList;
import java.util.List;
import java.util.Random;

/** Long runs of drawn calls on WorthKeeping and on PlainModel: every answer must be the same. */
public final class PlainModelTest {
    private static final int MOST_CALLS = 512;
    private final Checks checks = new Checks();
    private WorthKeeping x;
    private PlainModel y;
    private Random lots;
    private List<String> said;

    public static void main(String[] args) {
        int objects = args.length > 0 ? Integer.parseInt(args[0]) : 1500;
        PlainModelTest test = new PlainModelTest();
        for (int seed = 1; seed <= objects && test.checks.allRight(); seed++) {
            test.oneObject(seed);
        }
        test.checks.end();
    }

    private void oneObject(int seed) {
        x = new WorthKeeping();
        y = new PlainModel();
        lots = new Random(seed);
        said = new ArrayList<>();
        program();
        while (said.size() < MOST_CALLS && checks.allRight()) {
            oneCall();
        }
        if (!checks.allRight()) {
            System.out.println("seed " + seed + ": " + said);
        }
    }

    private void same(String call, int got, int want) {
        said.add(call);
        checks.due(call, want, got);
    }

    private void program() {
        List<List<Integer>> all = Drawn.program(lots);
        for (int r = 0; r < all.size(); r++) {
            same("routine()", x.routine(), y.routine());
        }
        for (int r = 0; r < all.size(); r++) {
            for (int c : all.get(r)) {
                code(r, c);
            }
        }
        for (int r = 0; r < all.size(); r++) {
            if (lots.nextInt(3) != 0) {
                keep(r, true);
            }
        }
        if (lots.nextBoolean()) {
            room(lots.nextInt(12), lots.nextInt(3));
        }
    }

    private void oneCall() {
        int there = y.told(0);
        int r = Drawn.index(lots, there);
        switch (lots.nextInt(60)) {
            case 0: same("routine()", x.routine(), y.routine()); break;
            case 1: code(r, lots.nextInt(6) == 0 ? lots.nextInt(800) - 50 : Drawn.anyCode(lots)); break;
            case 2: keep(r, lots.nextInt(4) != 0); break;
            case 3: room(Drawn.index(lots, lots.nextInt(3) == 0 ? 33 : 6), Drawn.index(lots, 3)); break;
            case 4: same("forget()", x.forget(), y.forget()); break;
            case 5: lot(Drawn.number(lots)); break;
            case 6: same("clear()", x.clear(), y.clear()); break;
            case 7: best(Drawn.index(lots, lots.nextBoolean() ? 33 : 5)); break;
            case 8: case 9: cost(lots.nextInt(), Drawn.index(lots, lots.nextBoolean() ? 33 : 5)); break;
            case 10: case 11: case 12: case 13: log(r); break;
            case 14: case 15: case 16: store(Drawn.index(lots, 16), Drawn.number(lots)); break;
            case 17: case 18: case 19: case 20: case 21: store(lots.nextInt(3), lots.nextInt(3)); break;
            case 22: acting(r); break;
            case 23: codeAt(r, Drawn.index(lots, 40)); break;
            case 24: case 25: case 26: told(Drawn.index(lots, 7)); break;
            case 27: case 28: case 29: case 30: kept(Drawn.index(lots, y.told(1)), Drawn.index(lots, 36)); break;
            case 31: allKept(); break;
            case 32: held(Drawn.index(lots, 16)); break;
            case 33: ran(Drawn.index(lots, 5)); break;
            default: run(r); break;
        }
    }

    private void code(int r, int c) {
        same("code(" + r + ", " + c + ")", x.code(r, c), y.code(r, c));
    }

    private void codeAt(int r, int i) {
        same("codeAt(" + r + ", " + i + ")", x.codeAt(r, i), y.codeAt(r, i));
    }

    private void keep(int r, boolean is) {
        same("keep(" + r + ", " + is + ")", x.keep(r, is), y.keep(r, is));
    }

    private void room(int room, int rule) {
        same("room(" + room + ", " + rule + ")", x.room(room, rule), y.room(room, rule));
    }

    private void lot(int v) {
        same("lot(" + v + ")", x.lot(v), y.lot(v));
    }

    private void store(int s, int v) {
        same("store(" + s + ", " + v + ")", x.store(s, v), y.store(s, v));
    }

    private void held(int s) {
        same("held(" + s + ")", x.held(s), y.held(s));
    }

    private void acting(int r) {
        same("acting(" + r + ")", x.acting(r), y.acting(r));
        same("reads(" + r + ")", x.reads(r), y.reads(r));
    }

    private void told(int what) {
        same("told(" + what + ")", x.told(what), y.told(what));
    }

    private void ran(int what) {
        same("ran(" + what + ")", x.ran(what), y.ran(what));
    }

    private void best(int room) {
        same("best(" + room + ")", x.best(room), y.best(room));
    }

    private void cost(int bits, int room) {
        same("cost(" + bits + ", " + room + ")", x.cost(bits, room), y.cost(bits, room));
    }

    private void log(int r) {
        int a = Drawn.number(lots);
        int b = Drawn.number(lots);
        int c = Drawn.number(lots);
        same("log(" + r + ", " + a + ", " + b + ", " + c + ")", x.log(r, a, b, c), y.log(r, a, b, c));
    }

    private void run(int r) {
        int a = Drawn.number(lots);
        int b = Drawn.number(lots);
        int c = Drawn.number(lots);
        same("run(" + r + ", " + a + ", " + b + ", " + c + ")", x.run(r, a, b, c), y.run(r, a, b, c));
        same("answer()", x.answer(), y.answer());
        for (int what = 0; what < 5; what++) {
            ran(what);
        }
    }

    private void kept(int i, int what) {
        same("kept(" + i + ", " + what + ")", x.kept(i, what), y.kept(i, what));
    }

    /** More calls than the document allows in all, but they change nothing. */
    private void allKept() {
        for (int i = 0; i < y.told(1); i++) {
            for (int what = 0; what < 36; what++) {
                checks.due("kept(" + i + ", " + what + ")", y.kept(i, what), x.kept(i, what));
            }
        }
    }
}
