import java.util.ArrayList;
import java.util.List;

/** What the tests have in common: it counts wrong answers, and makes programs in one line. */
final class Checks {
    private final List<String> wrong = new ArrayList<>();
    private int asked = 0;

    void due(String call, long want, long got) {
        asked++;
        if (got != want) {
            wrong.add(call + " answered " + got + ", due is " + want);
        }
    }

    void isTrue(String what, boolean is) {
        asked++;
        if (!is) {
            wrong.add("not so: " + what);
        }
    }

    boolean allRight() {
        return wrong.isEmpty();
    }

    /** Ends the test's process with 1 if an answer was wrong. */
    void end() {
        for (String one : wrong.subList(0, Math.min(50, wrong.size()))) {
            System.out.println(one);
        }
        System.out.println(asked + " answers asked, " + wrong.size() + " wrong");
        if (!wrong.isEmpty() || asked == 0) {
            System.exit(1);
        }
    }

    /** An object with these routines; every one is made before the first gets a code. */
    static WorthKeeping made(int[]... routines) {
        WorthKeeping x = new WorthKeeping();
        for (int i = 0; i < routines.length; i++) {
            x.routine();
        }
        for (int i = 0; i < routines.length; i++) {
            for (int c : routines[i]) {
                x.code(i, c);
            }
        }
        return x;
    }

    static int[] codes(int... codes) {
        return codes;
    }

    /** Row after row of the same codes. */
    static int[] times(int n, int... codes) {
        int[] all = new int[n * codes.length];
        for (int i = 0; i < all.length; i++) {
            all[i] = codes[i % codes.length];
        }
        return all;
    }

    static int[] joined(int[]... parts) {
        List<Integer> all = new ArrayList<>();
        for (int[] part : parts) {
            for (int c : part) {
                all.add(c);
            }
        }
        return all.stream().mapToInt(Integer::intValue).toArray();
    }
}
