import java.util.ArrayList;
import java.util.List;

/** What the tests have in common: it counts wrong answers, and makes programs in one line. */
final class Checks {
    private final List<String> wrong = new ArrayList<>();
    private int asked = 0;

    void due(String call, long want, long got) {
        asked++;
        if (got != want) {
            wrong.add(call + " answered " + got + ", due is " + want);
        }
    }

    void isTrue(String what, boolean is) {
        asked++;
        if (!is) {
            wrong.add("not so: " + what);
        }
    }

    int asked() {
        return asked;
    }

    boolean allRight() {
        return wrong.isEmpty();
    }

    /** Ends the test's process with 1 if an answer was wrong. */
    void end() {
        for (String one : wrong.subList(0, Math.min(50, wrong.size()))) {
            System.out.println(one);
        }
        System.out.println(asked + " answers asked, " + wrong.size() + " wrong");
        if (!wrong.isEmpty() || asked == 0) {
            System.exit(1);
        }
    }

    /** An object with these routines; every one is made before the first gets a code. */
    static WorthKeeping made(int[]... routines) {
        WorthKeeping x = new WorthKeeping();
        for (int i = 0; i < routines.length; i++) {
            x.routine();
        }
        for (int i = 0; i < routines.length; i++) {
            for (int c : routines[i]) {
                x.code(i, c);
            }
        }
        return x;
    }

    static int[] codes(int... codes) {
        return codes;
    }

    /** Row after row of the same codes. */
    static int[] times(int n, int... codes) {
        int[] all = new int[n * codes.length];
        for (int i = 0; i < all.length; i++) {
            all[i] = codes[i % codes.length];
        }
        return all;
    }

    static int[] joined(int[]... parts) {
        List<Integer> all = new ArrayList<>();
        for (int[] part : parts) {
            for (int c : part) {
                all.add(c);
            }
        }
        return all.stream().mapToInt(Integer::intValue).toArray();
    }

    /** Codes that bring numbers and take them away: so many steps, and at most one number is left. */
    static int[] fillers(int n) {
        int[] all = new int[n];
        for (int i = 0; i < n; i++) {
            all[i] = i % 2 == 0 ? 1 : 506;
        }
        return all;
    }

    /**
     * Routine 0 does just so many steps (1790 to 2000, through 6 to 9, 4 calls within one another)
     * with an empty row behind them, and then what it is told; others are 1 to 5 as far as told.
     */
    static WorthKeeping afterSteps(int steps, int[] then, int[]... others) {
        int left = steps - 5 - 4 * 444;
        int forties = left / 44;
        left %= 44;
        int[] rest = left < 4 ? times(left, 1) : codes(1, 1, 1, 406);
        int[][] all = new int[10][];
        all[0] = joined(codes(1, 1, 1, 407, 506), then);
        for (int r = 1; r < 6; r++) {
            all[r] = r <= others.length ? others[r - 1] : codes();
        }
        all[6] = fillers(Math.max(0, left - 4));
        all[7] = joined(times(4, 1, 1, 1, 408), times(forties, 1, 1, 1, 409), rest);
        all[8] = times(10, 1, 1, 1, 409);
        all[9] = fillers(40);
        return made(all);
    }
}
