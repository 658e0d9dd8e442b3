/** Promises 1 to 9: a new object, routines, codes, stores, the lot, what may act and read. */
public final class ProgramsTest {
    private static final int LEAST = Integer.MIN_VALUE;
    private static final int MOST = Integer.MAX_VALUE;
    private static final Checks CHECKS = new Checks();

    public static void main(String[] args) {
        aNewObject();
        routinesAreNumbered();
        codesAreCounted();
        codesOutsideAreRefused();
        refusalsComeInTheirOrder();
        codesCanBeLookedAt();
        storesHold();
        theLot();
        actingOfItself();
        actingThroughCalls();
        readingThroughCalls();
        changesForgetWhatWasKept();
        refusedChangesForgetNothing();
        codesEndKeeping();
        CHECKS.end();
    }

    private static void due(String call, long want, long got) {
        CHECKS.due(call, want, got);
    }

    private static void aNewObject() {
        WorthKeeping x = new WorthKeeping();
        int[] want = {0, 0, 8, 0, 0, 0, 1};
        for (int what = 0; what < want.length; what++) {
            due("new: told(" + what + ")", want[what], x.told(what));
        }
        for (int s = 0; s < 16; s++) {
            due("new: held(" + s + ")", 0, x.held(s));
        }
        due("new: answer", 0, x.answer());
        due("new: ran", -3, x.ran(0));
        due("new: forget", 0, x.forget());
        due("new: clear", 0, x.clear());
        due("new: cost", 0, x.cost(-1, 8));
        due("new: best", 0, x.best(8));
    }

    private static void routinesAreNumbered() {
        WorthKeeping x = new WorthKeeping();
        for (int i = 0; i < 10; i++) {
            due("routine " + i, i, x.routine());
            due("routine " + i + " is empty", -6, x.codeAt(i, 0));
        }
        due("the 11th routine", -4, x.routine());
        due("told of routines", 10, x.told(0));
    }

    private static void codesAreCounted() {
        WorthKeeping x = Checks.made(Checks.codes(), Checks.codes());
        for (int i = 1; i <= 40; i++) {
            due("code " + i, i, x.code(1, i));
        }
        due("the 41st code", -4, x.code(1, 5));
        due("the other routine", 1, x.code(0, 5));
    }

    private static void codesOutsideAreRefused() {
        boolean[] fine = new boolean[800];
        int[][] ranges = {{0, 99}, {100, 102}, {200, 215}, {300, 315}, {400, 409}, {500, 508}, {601, 620}};
        for (int[] range : ranges) {
            for (int c = range[0]; c <= range[1]; c++) {
                fine[c] = true;
            }
        }
        for (int c = -5; c < fine.length; c++) {
            boolean is = c >= 0 && fine[c];
            due("code " + c, is ? 1 : -2, Checks.made(Checks.codes()).code(0, c));
        }
        for (int c : new int[] {LEAST, -100, -400, 1000, 65536, MOST}) {
            due("code " + c, -2, Checks.made(Checks.codes()).code(0, c));
        }
    }

    private static void refusalsComeInTheirOrder() {
        WorthKeeping x = Checks.made(Checks.times(40, 1));
        due("neither routine nor code", -1, x.code(1, -1));
        due("no code, and full", -2, x.code(0, 700));
        due("full", -4, x.code(0, 1));
        for (int r : new int[] {LEAST, -1, 1, 10, MOST}) {
            due("code of " + r, -1, x.code(r, 1));
            due("codeAt of " + r, -1, x.codeAt(r, 0));
            due("codeAt of " + r + " beyond", -1, x.codeAt(r, -1));
            due("acting of " + r, -1, x.acting(r));
            due("reads of " + r, -1, x.reads(r));
        }
    }

    private static void codesCanBeLookedAt() {
        WorthKeeping x = Checks.made(Checks.codes(7, 601, 315), Checks.times(40, 508));
        due("codeAt(0, 0)", 7, x.codeAt(0, 0));
        due("codeAt(0, 1)", 601, x.codeAt(0, 1));
        due("codeAt(0, 2)", 315, x.codeAt(0, 2));
        due("codeAt(0, 3)", -6, x.codeAt(0, 3));
        due("codeAt(1, 39)", 508, x.codeAt(1, 39));
        for (int i : new int[] {LEAST, -1, 40, 41, MOST}) {
            due("codeAt(1, " + i + ")", -6, x.codeAt(1, i));
        }
    }

    private static void storesHold() {
        WorthKeeping x = new WorthKeeping();
        for (int s = 0; s < 16; s++) {
            due("store " + s, 0, x.store(s, 100 - s));
        }
        for (int s = 0; s < 16; s++) {
            due("held " + s, 100 - s, x.held(s));
            due("store " + s + " anew", 100 - s, x.store(s, LEAST));
            due("held " + s + " anew", LEAST, x.held(s));
        }
        for (int s : new int[] {LEAST, -1, 16, 17, 32, MOST}) {
            due("no store " + s, 0, x.store(s, 7));
            due("none held by " + s, 0, x.held(s));
        }
        due("still held", LEAST, x.held(0));
    }

    private static void theLot() {
        WorthKeeping x = Checks.made(Checks.codes(508));
        due("lot", 1, x.lot(LEAST));
        due("lot anew", LEAST, x.lot(-7));
        due("told of it", -7, x.told(6));
        x.run(0, 0, 0, 0);
        due("a lot drawn", -7 * 69069 + 1, x.told(6));
        due("what came", (-7 * 69069 + 1) >>> 16, x.answer());
    }

    private static void actingOfItself() {
        due("nothing", 0, Checks.made(Checks.codes()).acting(0));
        for (int s = 0; s < 16; s++) {
            due("code 300 and " + s, 1, Checks.made(Checks.codes(300 + s)).acting(0));
            due("code 200 and " + s, 0, Checks.made(Checks.codes(200 + s)).acting(0));
            due("reads of it", 1 << s, Checks.made(Checks.codes(200 + s)).reads(0));
            due("reads of a 300 one", 0, Checks.made(Checks.codes(300 + s)).reads(0));
        }
        for (int o = 0; o < 9; o++) {
            due("code 500 and " + o, o == 8 ? 2 : 0, Checks.made(Checks.codes(500 + o)).acting(0));
        }
        due("both", 3, Checks.made(Checks.codes(1, 300, 508)).acting(0));
        due("left out, but it may", 3, Checks.made(Checks.codes(0, 602, 508, 300)).acting(0));
        due("of itself", 1, Checks.made(Checks.codes(400, 300)).acting(0));
    }

    private static void actingThroughCalls() {
        // 0 -> 1 -> .. -> 9, both ways round
        WorthKeeping x = new WorthKeeping();
        WorthKeeping y = new WorthKeeping();
        for (int i = 0; i < 10; i++) {
            x.routine();
            y.routine();
        }
        for (int i = 0; i < 9; i++) {
            x.code(i, 401 + i);
            y.code(9 - i, 408 - i);
        }
        for (int i = 0; i < 10; i++) {
            due("nobody acts yet, " + i, 0, x.acting(i) + y.acting(i));
        }
        x.code(9, 300);
        x.code(4, 508);
        y.code(0, 508);
        for (int i = 0; i < 10; i++) {
            due("chain, " + i, i <= 4 ? 3 : 1, x.acting(i));
            due("chain back, " + i, 2, y.acting(i));
        }
        // a ring, and one that is only called
        WorthKeeping z = Checks.made(Checks.codes(401), Checks.codes(402), Checks.codes(400, 403),
                Checks.codes(200), Checks.codes(400));
        due("ring", 0, z.acting(0));
        z.code(1, 315);
        int[] want = {1, 1, 1, 0, 1};
        for (int i = 0; i < 5; i++) {
            due("ring, " + i, want[i], z.acting(i));
        }
        notThereThenThere();
    }

    private static void notThereThenThere() {
        WorthKeeping x = Checks.made(Checks.codes(401, 409));
        due("not there", 0, x.acting(0));
        due("not there, keep", 0, x.keep(0, true));
        due("there", 1, x.routine());
        due("there, acting", 0, x.acting(0));
        x.code(1, 200);
        due("there, reads", 1, x.reads(0));
        due("still kept", 1, x.told(5));
        x.code(1, 300);
        due("there, acts", 1, x.acting(0));
        due("no more kept", 0, x.told(5));
    }

    private static void readingThroughCalls() {
        due("reads of two", 1 << 9 | 1 << 2, Checks.made(Checks.codes(209, 202)).reads(0));
        WorthKeeping x = Checks.made(Checks.codes(200, 401), Checks.codes(215, 402),
                Checks.codes(207, 400, 403, 409), Checks.codes(201, 302), Checks.codes(400, 214));
        int ring = 1 | 1 << 15 | 1 << 7 | 1 << 1;
        int[] want = {ring, ring, ring, 2, ring | 1 << 14};
        for (int i = 0; i < 5; i++) {
            due("reads " + i, want[i], x.reads(i));
        }
    }

    private static WorthKeeping withTwoKept() {
        WorthKeeping x = Checks.made(Checks.codes(100), Checks.codes(101));
        x.keep(0, true);
        x.keep(1, true);
        x.run(0, 5, 0, 0);
        x.run(1, 5, 6, 0);
        due("two are kept", 2, x.told(1));
        return x;
    }

    private static void changesForgetWhatWasKept() {
        WorthKeeping x = withTwoKept();
        x.routine();
        due("behind routine()", 0, x.told(1));
        due("still told", 3, x.told(5));
        x = withTwoKept();
        x.code(1, 1);
        due("behind code()", 0, x.told(1));
        due("still told", 3, x.told(5));
        due("answer stays", 6, x.answer());
        due("ran stays", 1, x.ran(0));
    }

    private static void refusedChangesForgetNothing() {
        WorthKeeping x = withTwoKept();
        x.code(2, 1);
        x.code(0, 700);
        due("behind refused code()", 2, x.told(1));
        for (int i = 2; i < 10; i++) {
            x.routine();
        }
        for (int i = 1; i < 40; i++) {
            x.code(0, 1);
        }
        x.run(1, 1, 1, 1);
        due("one is kept", 1, x.told(1));
        due("no routine", -4, x.routine());
        due("no code", -4, x.code(0, 1));
        due("behind full ones", 1, x.told(1));
    }

    private static void codesEndKeeping() {
        WorthKeeping x = Checks.made(Checks.codes(401), Checks.codes(402), Checks.codes(), Checks.codes());
        for (int i = 0; i < 4; i++) {
            due("keep " + i, 0, x.keep(i, true));
        }
        x.code(3, 508);
        due("3 draws", 7, x.told(5));
        x.code(1, 300);
        due("1 acts, so 0 does", 4, x.told(5));
        x.code(2, 1);
        due("2 does nothing of it", 4, x.told(5));
    }
}
