import java.util.List;
import java.util.Random;

/** Answers are never other than if nothing were kept; nor are steps, depths, stores and lots. */
public final class NothingKeptTest {
    private static final Checks CHECKS = new Checks();
    private static long hits = 0;

    public static void main(String[] args) {
        for (int seed = 1; seed <= 1500 && CHECKS.allRight(); seed++) {
            oneProgram(seed);
        }
        CHECKS.isTrue("there were hits, " + hits, hits > 10000);
        CHECKS.end();
    }

    private static void oneProgram(int seed) {
        Random lots = new Random(-seed);
        List<List<Integer>> program = Drawn.program(lots);
        WorthKeeping keeping = made(program);
        WorthKeeping plain = made(program);
        for (int r = 0; r < program.size(); r++) {
            keeping.keep(r, true);
        }
        keeping.room(lots.nextInt(33), lots.nextInt(3));
        for (int i = 0; i < 100; i++) {
            if (lots.nextInt(4) == 0) {
                int s = lots.nextInt(3);
                int v = lots.nextInt(3);
                CHECKS.due("store", plain.store(s, v), keeping.store(s, v));
            }
            oneRun("seed " + seed + ", run " + i, keeping, plain, lots, program.size());
        }
    }

    private static WorthKeeping made(List<List<Integer>> program) {
        int[][] routines = new int[program.size()][];
        for (int r = 0; r < routines.length; r++) {
            routines[r] = program.get(r).stream().mapToInt(Integer::intValue).toArray();
        }
        return Checks.made(routines);
    }

    private static void oneRun(String what, WorthKeeping keeping, WorthKeeping plain, Random lots, int routines) {
        int r = lots.nextInt(routines);
        int a = Drawn.number(lots);
        int b = Drawn.number(lots);
        int c = Drawn.number(lots);
        CHECKS.due(what, plain.run(r, a, b, c), keeping.run(r, a, b, c));
        CHECKS.due(what + ", answer", plain.answer(), keeping.answer());
        CHECKS.due(what + ", steps", plain.ran(0), keeping.ran(0));
        CHECKS.due(what + ", calls within", plain.ran(4), keeping.ran(4));
        CHECKS.due(what + ", real steps of the plain one", plain.ran(0), plain.ran(1));
        CHECKS.isTrue(what + ", real steps", keeping.ran(1) >= 0 && keeping.ran(1) <= keeping.ran(0));
        CHECKS.due(what + ", lot", plain.told(6), keeping.told(6));
        for (int s = 0; s < 16; s++) {
            CHECKS.due(what + ", store " + s, plain.held(s), keeping.held(s));
        }
        hits += keeping.ran(2);
    }
}
