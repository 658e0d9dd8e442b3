/** Promises 10 to 16: runs, their answers and counts, keeping, the room and its rules. */
public final class RunsTest {
    private static final int LEAST = Integer.MIN_VALUE;
    private static final int MOST = Integer.MAX_VALUE;
    private static final Checks CHECKS = new Checks();

    public static void main(String[] args) {
        operations();
        numbersAndStores();
        leavingOut();
        calls();
        lots();
        tooFew();
        rowIsFull();
        refusedCallsAreRefusedAlike();
        depth();
        steps();
        unknownRunsChangeNothing();
        ranIsAsked();
        keeping();
        keysOfJustWhatWasRead();
        keptStores();
        keptRefusals();
        refusalsNotKept();
        hitsThatDoNotFit();
        keptCounts();
        rulesOfRoom();
        roomIsToldAnew();
        keptIsAsked();
        CHECKS.end();
    }

    private static void due(String call, long want, long got) {
        CHECKS.due(call, want, got);
    }

    /** The latest run: its answer, steps, real steps, hits, misses, most calls within. */
    private static void ranDue(String what, WorthKeeping x, int... want) {
        due(what + ": answer", want[0], x.answer());
        for (int i = 0; i + 1 < want.length; i++) {
            due(what + ": ran(" + i + ")", want[i + 1], x.ran(i));
        }
    }

    private static void runDue(String what, int refusal, int answer, int a, int b, int... codes) {
        WorthKeeping x = Checks.made(codes);
        due(what, refusal, x.run(0, a, b, 77));
        due(what + ": answer", answer, x.answer());
    }

    private static void operations() {
        runDue("sum", 0, 12, 7, 5, 100, 101, 500);
        runDue("sum wraps", 0, LEAST, MOST, 1, 100, 101, 500);
        runDue("difference", 0, 2, 7, 5, 100, 101, 501);
        runDue("difference wraps", 0, MOST, LEAST, 1, 100, 101, 501);
        runDue("product", 0, -35, 7, -5, 100, 101, 502);
        runDue("product wraps", 0, 1 << 31, 1 << 16, 1 << 15, 100, 101, 502);
        runDue("quotient", 0, 3, 7, 2, 100, 101, 503);
        runDue("quotient is cut", 0, -3, -7, 2, 100, 101, 503);
        runDue("quotient wraps", 0, LEAST, LEAST, -1, 100, 101, 503);
        runDue("quotient by 0", 3, 0, 7, 0, 100, 101, 503);
        runDue("quotient of 0 by 0", 3, 0, 0, 0, 100, 101, 503);
        runDue("less", 0, 1, -7, 5, 100, 101, 504);
        runDue("not less", 0, 0, 7, 5, 100, 101, 504);
        runDue("alike is not less", 0, 0, 5, 5, 100, 101, 504);
        runDue("less without wrap", 0, 1, LEAST, MOST, 100, 101, 504);
        runDue("alike", 0, 1, 5, 5, 100, 101, 505);
        runDue("not alike", 0, 0, 5, 6, 100, 101, 505);
        runDue("taken away", 0, 7, 7, 5, 100, 101, 506);
        runDue("taken away to nothing", 0, 0, 7, 5, 100, 506);
        runDue("once more", 0, 14, 7, 5, 100, 507, 500);
        runDue("two are taken, one comes", 0, 1, 7, 5, 1, 100, 101, 500, 506);
    }

    private static void numbersAndStores() {
        for (int c : new int[] {0, 1, 50, 99}) {
            runDue("constant", 0, c, 5, 5, c);
        }
        for (int i = 0; i < 3; i++) {
            WorthKeeping x = Checks.made(Checks.codes(100 + i));
            due("run", 0, x.run(0, LEAST, -3, MOST));
            due("number " + i, new int[] {LEAST, -3, MOST}[i], x.answer());
        }
        WorthKeeping x = Checks.made(Checks.codes(200, 100, 215, 501, 300, 101, 315));
        x.store(0, 11);
        x.store(15, 12);
        due("run over stores", 0, x.run(0, 100, 200, 0));
        ranDue("run over stores", x, 11, 7, 7, 0, 0, 1);
        due("store 0", 88, x.held(0));
        due("store 15", 200, x.held(15));
        for (int s = 1; s < 15; s++) {
            due("store " + s, 0, x.held(s));
        }
        due("an empty routine", 0, Checks.made(Checks.codes()).run(0, 1, 2, 3));
    }

    private static void leavingOut() {
        runDue("0 leaves out", 0, 5, 0, 0, 5, 100, 601, 6);
        runDue("1 does not", 0, 6, 1, 0, 5, 100, 601, 6);
        runDue("-1 does not", 0, 6, -1, 0, 5, 100, 601, 6);
        runDue("2 left out", 0, 8, 0, 0, 5, 100, 602, 6, 7, 8);
        runDue("as far as there are", 0, 5, 0, 0, 5, 100, 620, 6, 7, 8);
        runDue("none is there", 0, 5, 0, 0, 5, 100, 601);
        int[] many = Checks.joined(Checks.codes(1, 100, 620), Checks.times(20, 507), Checks.codes(9));
        runDue("20 left out", 0, 9, 0, 0, many);
        WorthKeeping x = Checks.made(many);
        x.run(0, 0, 0, 0);
        ranDue("left out ones are no steps", x, 9, 4, 4, 0, 0, 1);
        due("with nothing to take", 1, Checks.made(Checks.codes(601, 5)).run(0, 0, 0, 0));
    }

    private static void calls() {
        WorthKeeping x = Checks.made(Checks.codes(9, 1, 2, 3, 401, 500), Checks.codes(100, 10, 502,
                101, 500, 10, 502, 102, 500));
        due("a call", 0, x.run(0, 0, 0, 0));
        ranDue("a call", x, 132, 15, 15, 0, 0, 2);
        WorthKeeping y = Checks.made(Checks.codes(9, 1, 2, 3, 401), Checks.codes());
        due("an empty routine called", 0, y.run(0, 0, 0, 0));
        ranDue("an empty routine called", y, 0, 5, 5, 0, 0, 2);
        WorthKeeping z = Checks.made(Checks.codes(1, 2, 3, 401, 4, 5, 6, 402, 500), Checks.codes(1, 2, 3, 402),
                Checks.codes(100, 101, 300));
        due("rows are their own", 0, z.run(0, 0, 0, 0));
        ranDue("rows are their own", z, 5, 19, 19, 0, 0, 3);
        due("what a call held", 5, z.held(0));
    }

    private static void lots() {
        WorthKeeping x = Checks.made(Checks.codes(508, 300, 508, 301, 508));
        due("lots", 0, x.run(0, 0, 0, 0));
        int lot = 69070;
        due("first lot", lot >>> 16, x.held(0));
        lot = lot * 69069 + 1;
        due("second lot", lot >>> 16, x.held(1));
        lot = lot * 69069 + 1;
        due("third lot", lot >>> 16, x.answer());
        due("the lot", lot, x.told(6));
        WorthKeeping full = Checks.made(Checks.joined(Checks.times(20, 1), Checks.codes(508)));
        due("no place for a lot", 2, full.run(0, 0, 0, 0));
        due("none is drawn", 1, full.told(6));
    }

    private static void tooFew() {
        for (int o = 0; o < 6; o++) {
            runDue("operation " + o + " on none", 1, 0, 0, 0, 500 + o);
            runDue("operation " + o + " on one", 1, 0, 0, 0, 1, 500 + o);
        }
        runDue("nothing to take away", 1, 0, 0, 0, 506);
        runDue("nothing to come once more", 1, 0, 0, 0, 507);
        runDue("nothing to store", 1, 0, 0, 0, 300);
        runDue("two for a call", 1, 0, 0, 0, 1, 2, 400);
        runDue("two for a call that is not there", 1, 0, 0, 0, 1, 2, 409);
        WorthKeeping x = Checks.made(Checks.codes(5, 6, 300, 501));
        due("refused late", 1, x.run(0, 0, 0, 0));
        ranDue("refused late", x, 0, 4, 4, 0, 0, 1);
        due("what was done stays", 6, x.held(0));
    }

    private static void rowIsFull() {
        int[] full = Checks.times(20, 3);
        due("20 are fine", 0, Checks.made(full).run(0, 0, 0, 0));
        for (int c : new int[] {0, 100, 200, 507, 508}) {
            WorthKeeping x = Checks.made(Checks.joined(full, Checks.codes(c, 506)));
            due("row is full at " + c, 2, x.run(0, 0, 0, 0));
            ranDue("row is full at " + c, x, 0, 21, 21, 0, 0, 1);
        }
        for (int c : new int[] {300, 401, 500, 501, 502, 503, 504, 505, 506, 601}) {
            WorthKeeping x = Checks.made(Checks.joined(full, Checks.codes(c)), Checks.codes());
            due("a full row takes " + c, 0, x.run(0, 0, 0, 0));
            due("a full row takes " + c, 21, x.ran(0));
        }
    }

    private static void refusedCallsAreRefusedAlike() {
        int[][] wrong = {Checks.codes(506), Checks.times(21, 1), Checks.codes(1, 0, 503), Checks.codes(1, 1, 1, 409)};
        for (int i = 0; i < wrong.length; i++) {
            WorthKeeping x = Checks.made(Checks.codes(5, 300, 1, 2, 3, 401, 9, 300), Checks.codes(1, 2, 3, 402),
                    wrong[i]);
            due("refused by " + (i + 1), i + 1, x.run(0, 0, 0, 0));
            int steps = 6 + 4 + wrong[i].length;
            ranDue("refused by " + (i + 1), x, 0, steps, steps, 0, 0, 3);
            due("what went ahead stays", 5, x.held(0));
        }
    }

    /** Its number 1 says how many calls within; the last one answers its number 0. */
    private static final int[] DEEPER = {100, 101, 607, 101, 1, 501, 102, 400, 1, 500};

    private static void depth() {
        WorthKeeping x = Checks.made(DEEPER);
        due("12 calls", 0, x.run(0, 5, 11, 0));
        due("12 calls: depth", 12, x.ran(4));
        due("13 calls", 4, x.run(0, 5, 12, 0));
        ranDue("13 calls", x, 0, 96, 96, 0, 0, 12);
        // at the 12th call, a routine that is not there, and too few numbers for one too many
        WorthKeeping y = Checks.made(Checks.codes(100, 101, 605, 101, 1, 501, 102, 400, 101, 604, 100, 100, 100, 409));
        due("not there, deep", 4, y.run(0, 5, 11, 0));
        WorthKeeping z = Checks.made(Checks.codes(101, 606, 100, 101, 1, 501, 102, 400, 400));
        due("too few comes ahead of too deep", 1, z.run(0, 5, 11, 0));
    }

    private static final int[] TEN_CALLS_OF_1 = Checks.times(10, 1, 2, 3, 401);

    /** Codes that take some steps and leave one number or two, the last being 1. */
    private static int[] stepsOf(int n) {
        int[] all = new int[n];
        for (int i = 0; i < n; i++) {
            all[i] = i % 2 == 0 || i == n - 1 ? 1 : 506;
        }
        return all;
    }

    /** Routine 0 does 1944 steps through 1 to 3 and then what it is told; 4 is for that, too. */
    private static WorthKeeping after1944(int[] then, int[] fourth) {
        return Checks.made(Checks.joined(Checks.codes(1, 2, 3, 403), then), Checks.times(5, 1, 2, 3, 402), stepsOf(34),
                TEN_CALLS_OF_1, fourth);
    }

    private static void steps() {
        int[] fiftyFour = Checks.joined(Checks.codes(1, 2, 3, 404), stepsOf(16));
        for (int more = 0; more < 3; more++) {
            WorthKeeping x = after1944(Checks.joined(fiftyFour, Checks.times(more, 1)), stepsOf(34));
            due("1998 steps and " + more, 0, x.run(0, 0, 0, 0));
            ranDue("1998 steps and " + more, x, 1, 1998 + more, 1998 + more, 0, 0, 4);
        }
        for (int c : new int[] {1, 506, 300, 601, 503}) {
            WorthKeeping x = after1944(Checks.joined(fiftyFour, Checks.codes(1, 7, c, 1)), stepsOf(34));
            due("a 2001st step " + c, 5, x.run(0, 0, 0, 0));
            ranDue("a 2001st step " + c, x, 0, 2000, 2000, 0, 0, 4);
            due("it is not done", 0, x.held(0));
        }
        // as the 2001st, even one that could not be done is not begun
        WorthKeeping y = after1944(Checks.joined(fiftyFour, Checks.codes(1, 0, 503)), stepsOf(34));
        due("a 2001st step by 0", 5, y.run(0, 0, 0, 0));
        // the 2000th step is a call
        for (int[] last : new int[][] {Checks.codes(), Checks.codes(1)}) {
            WorthKeeping x = Checks.made(Checks.joined(Checks.codes(1, 2, 3, 403, 1, 2, 3, 404), stepsOf(17), Checks.codes(1, 1, 405)),
                    Checks.times(5, 1, 2, 3, 402), stepsOf(34), TEN_CALLS_OF_1, stepsOf(32), last);
            due("the last step calls", last.length == 0 ? 0 : 5, x.run(0, 0, 0, 0));
            ranDue("the last step calls", x, 0, 2000, 2000, 0, 0, 4);
            x.keep(5, true);
            due("the last step calls a kept one", last.length == 0 ? 0 : 5, x.run(0, 0, 0, 0));
            ranDue("the last step calls a kept one", x, 0, 2000, 2000, 0, 1, 4);
            due("the called alone", 0, x.run(5, 0, 0, 0));
            due("the last step calls a kept one again", last.length == 0 ? 0 : 5, x.run(0, 0, 0, 0));
            ranDue("the last step calls a kept one again", x, 0, 2000, 2000, last.length == 0 ? 1 : 0, last.length, 4);
        }
    }

    private static void unknownRunsChangeNothing() {
        WorthKeeping x = Checks.made(Checks.codes(100));
        x.run(0, 42, 0, 0);
        for (int r : new int[] {LEAST, -1, 1, 10, MOST}) {
            due("run of " + r, -1, x.run(r, 1, 2, 3));
            ranDue("run of " + r, x, 42, 1, 1, 0, 0, 1);
        }
        WorthKeeping y = new WorthKeeping();
        due("no routine", -1, y.run(0, 0, 0, 0));
        due("no run was", -3, y.ran(0));
    }

    private static void ranIsAsked() {
        WorthKeeping x = Checks.made(Checks.codes(100, 1, 500));
        for (int what : new int[] {LEAST, -1, 5, 6, MOST}) {
            due("ran(" + what + ") ahead of a run", -2, x.ran(what));
        }
        for (int what = 0; what < 5; what++) {
            due("ran(" + what + ") ahead of a run", -3, x.ran(what));
        }
        x.run(0, 41, 0, 0);
        for (int what : new int[] {LEAST, -1, 5, 6, MOST}) {
            due("ran(" + what + ")", -2, x.ran(what));
        }
        ranDue("a run", x, 42, 3, 3, 0, 0, 1);
        x.cost(1, 8);
        x.best(8);
        x.code(0, 1);
        x.routine();
        x.forget();
        ranDue("asked later", x, 42, 3, 3, 0, 0, 1);
        due("an empty run", 0, x.run(1, 1, 1, 1));
        ranDue("an empty run", x, 0, 0, 0, 0, 0, 1);
    }

    private static void keeping() {
        WorthKeeping x = Checks.made(Checks.codes(100), Checks.codes(1, 300), Checks.codes(508),
                Checks.codes(1, 1, 1, 401), Checks.codes(101));
        due("keep 0", 0, x.keep(0, true));
        due("keep 0 again", 1, x.keep(0, true));
        due("keep 4", 0, x.keep(4, true));
        for (int r = 1; r < 4; r++) {
            due("keep " + r, -5, x.keep(r, true));
            due("not keep " + r, -5, x.keep(r, false));
        }
        for (int r : new int[] {LEAST, -1, 5, 10, MOST}) {
            due("keep " + r, -1, x.keep(r, true));
            due("not keep " + r, -1, x.keep(r, false));
        }
        due("told to be kept", 17, x.told(5));
        for (int i = 0; i < 4; i++) {
            x.run(0, i, 0, 0);
            x.run(4, 0, i, 0);
        }
        due("kept ones", 8, x.told(1));
        due("keep 0 again", 1, x.keep(0, true));
        due("kept ones", 8, x.told(1));
        due("no more 0", 1, x.keep(0, false));
        due("kept ones", 4, x.told(1));
        for (int i = 0; i < 4; i++) {
            due("kept one is of 4", 4, x.kept(i, 0));
            due("in their order", i, x.kept(i, 11));
        }
        due("no more 0, again", 0, x.keep(0, false));
        due("told to be kept", 16, x.told(5));
        x.run(0, 1, 1, 1);
        ranDue("not kept", x, 1, 1, 1, 0, 0, 1);
        due("forget", 4, x.forget());
        due("forget again", 0, x.forget());
        due("kept ones", 0, x.told(1));
        due("told to be kept", 16, x.told(5));
    }

    private static void keysOfJustWhatWasRead() {
        // number 0 says whether number 1 is read; number 2 and the constants of a call never are
        WorthKeeping x = Checks.made(Checks.codes(100, 602, 101, 601, 9));
        x.keep(0, true);
        x.run(0, 0, 5, 6);
        ranDue("first", x, 9, 3, 3, 0, 1, 1);
        x.run(0, 0, 7, 8);
        ranDue("others were not read", x, 9, 3, 0, 1, 0, 1);
        x.run(0, 1, 5, 6);
        ranDue("number 1 is read", x, 9, 5, 5, 0, 1, 1);
        x.run(0, 1, 6, 6);
        ranDue("another number 1", x, 9, 5, 5, 0, 1, 1);
        x.run(0, 1, 5, 9);
        ranDue("as the third", x, 9, 5, 0, 1, 0, 1);
        int[][] want = {{0, 1, 0, 9, 0, 3, 0, 1, 1}, {0, 3, 0, 9, 0, 5, 0, 1, 1}, {0, 3, 0, 9, 0, 5, 0, 0, 1}};
        keptDue("keys", x, want);
        due("number 0 was", 1, x.kept(1, 10));
        due("number 1 was", 5, x.kept(1, 11));
        due("number 0 was, too", 0, x.kept(0, 10));
        due("number 1 was not read", 0, x.kept(0, 11));
        due("number 2 was not read", 0, x.kept(1, 12));
        // what a full row refuses was not read
        WorthKeeping y = Checks.made(Checks.joined(Checks.times(20, 1), Checks.codes(100)),
                Checks.joined(Checks.times(20, 1), Checks.codes(203)));
        y.keep(0, true);
        y.keep(1, true);
        y.run(0, 5, 5, 5);
        y.run(1, 5, 5, 5);
        keptDue("full", y, new int[][] {{0, 0, 0, 0, 2, 21, 0, 0, 1}, {1, 0, 0, 0, 2, 21, 0, 0, 1}});
    }

    private static void keptDue(String what, WorthKeeping x, int[][] want) {
        due(what + ": kept ones", want.length, x.told(1));
        for (int i = 0; i < want.length; i++) {
            for (int j = 0; j < want[i].length; j++) {
                due(what + ": kept(" + i + ", " + j + ")", want[i][j], x.kept(i, j));
            }
        }
    }

    private static void keptStores() {
        // 0 is kept and reads store 3 through 1, which is not; 2 acts and calls 0
        WorthKeeping x = Checks.made(Checks.codes(100, 0, 0, 401, 205, 500), Checks.codes(203, 100, 500),
                Checks.codes(1, 2, 3, 400, 9, 303, 1, 2, 3, 400, 500));
        x.keep(0, true);
        x.store(3, 30);
        x.store(5, 50);
        x.store(6, 60);
        x.run(0, 1, 0, 0);
        ranDue("stores", x, 81, 9, 9, 0, 1, 2);
        keptDue("stores", x, new int[][] {{0, 1, 40, 81, 0, 9, 1, 0, 1}});
        for (int s = 0; s < 16; s++) {
            due("store " + s + " was", s == 3 ? 30 : s == 5 ? 50 : 0, x.kept(0, 20 + s));
        }
        x.store(6, 61);
        due("another store", 1, x.kept(0, 8));
        x.store(3, 31);
        due("a store that was read", 0, x.kept(0, 8));
        due("what it was stays", 30, x.kept(0, 23));
        x.run(0, 1, 0, 0);
        ranDue("it does not hold", x, 82, 9, 9, 0, 1, 2);
        x.store(3, 30);
        due("as it was", 1, x.kept(0, 8));
        x.run(0, 1, 0, 0);
        ranDue("it holds again", x, 81, 9, 0, 1, 0, 2);
        x.run(2, 0, 0, 0);
        ranDue("changed within a run", x, 81 + 60, 29, 20, 1, 1, 3);
        keptDue("changed within a run", x, new int[][] {{0, 1, 40, 81, 0, 9, 1, 2, 0},
            {0, 1, 40, 82, 0, 9, 1, 0, 0}, {0, 1, 40, 60, 0, 9, 1, 0, 1}});
        callsSideBySide();
        readThroughAHit();
    }

    /** What a call read and how deep it went is not what the call ahead of it did. */
    private static void callsSideBySide() {
        WorthKeeping x = Checks.made(Checks.codes(200, 1, 2, 3, 401, 1, 2, 3, 402), Checks.codes(1, 2, 3, 403),
                Checks.codes(5), Checks.codes(211));
        x.store(0, 6);
        x.store(11, 7);
        x.keep(0, true);
        x.keep(1, true);
        x.keep(2, true);
        x.run(0, 0, 0, 0);
        ranDue("side by side", x, 5, 15, 15, 0, 3, 3);
        int both = 1 | 1 << 11;
        keptDue("side by side", x, new int[][] {{1, 0, 1 << 11, 7, 0, 5, 1, 0, 1}, {2, 0, 0, 5, 0, 1, 0, 0, 1},
            {0, 0, both, 5, 0, 15, 2, 0, 1}});
        due("store 0 was", 6, x.kept(2, 20));
        due("store 11 was", 7, x.kept(2, 31));
        due("store 0 was not read", 0, x.kept(0, 20));
    }

    private static void readThroughAHit() {
        WorthKeeping x = Checks.made(Checks.codes(1, 2, 3, 401), Checks.codes(5, 5, 5, 402), Checks.codes(204));
        x.keep(0, true);
        x.keep(1, true);
        x.run(1, 0, 0, 0);
        x.run(0, 0, 0, 0);
        ranDue("through a hit", x, 0, 9, 4, 1, 1, 3);
        keptDue("through a hit", x, new int[][] {{1, 0, 16, 0, 0, 5, 1, 1, 1}, {0, 0, 16, 0, 0, 9, 2, 0, 1}});
        x.store(4, 8);
        x.run(0, 0, 0, 0);
        ranDue("what a hit read has changed", x, 8, 9, 9, 0, 2, 3);
    }

    private static void keptRefusals() {
        int[][] wrong = {Checks.codes(100, 500), Checks.joined(Checks.codes(100), Checks.times(20, 1)),
            Checks.codes(100, 0, 503), Checks.codes(100, 1, 1, 409)};
        for (int i = 0; i < wrong.length; i++) {
            WorthKeeping x = Checks.made(Checks.codes(1, 100, 101, 102, 401), wrong[i]);
            x.keep(0, true);
            x.keep(1, true);
            due("refused", i + 1, x.run(0, 7, 8, 9));
            int steps = wrong[i].length;
            ranDue("refused", x, 0, steps + 5, steps + 5, 0, 2, 2);
            keptDue("refused", x, new int[][] {{1, 1, 0, 0, i + 1, steps, 0, 0, 1},
                {0, 7, 0, 0, i + 1, steps + 5, 1, 0, 1}});
            due("refused again", i + 1, x.run(0, 7, 8, 9));
            ranDue("refused again", x, 0, steps + 5, 0, 1, 0, 2);
            due("refused within", i + 1, x.run(0, 7, 7, 7));
            ranDue("refused within", x, 0, steps + 5, 5, 1, 1, 2);
            due("refused by another number", i + 1, x.run(0, 8, 7, 7));
            ranDue("refused by another number", x, 0, steps + 5, steps + 5, 0, 2, 2);
        }
    }

    private static void refusalsNotKept() {
        WorthKeeping x = Checks.made(DEEPER);
        x.keep(0, true);
        due("too deep", 4, x.run(0, 5, 12, 0));
        ranDue("too deep", x, 0, 96, 96, 0, 12, 12);
        due("nothing of it is kept", 0, x.told(1));
        int[] twice = {101, 612, 100, 101, 1, 501, 102, 400, 100, 101, 1, 501, 102, 400};
        WorthKeeping y = Checks.made(twice);
        due("too long", 5, y.run(0, 5, 9, 0));
        due("too long", 2000, y.ran(0));
        WorthKeeping w = Checks.made(TEN_CALLS_OF_1, Checks.times(10, 1, 2, 3, 402), Checks.times(20, 1));
        w.keep(0, true);
        w.keep(1, true);
        due("too long, kept ones", 5, w.run(0, 0, 0, 0));
        // 1 takes 240 steps each: 8 times 244 are 1952, then 4 and 44 more
        ranDue("too long, kept ones", w, 0, 1996 + 4, 244 + 7 * 4 + 4 + 44, 7, 3, 3);
        keptDue("too long, kept ones", w, new int[][] {{1, 0, 0, 1, 0, 240, 1, 7, 1}});
    }

    private static void hitsThatDoNotFit() {
        // 0 goes as deep as number 1 says, and calls 1, which calls 2, at the end
        int[] down = {101, 608, 100, 101, 1, 501, 102, 400, 100, 620, 100, 101, 102, 401};
        WorthKeeping x = Checks.made(down, Checks.codes(1, 1, 1, 402), Checks.codes(5));
        x.keep(1, true);
        due("alone", 0, x.run(1, 0, 0, 0));
        due("10 and 2", 0, x.run(0, 0, 9, 0));
        ranDue("10 and 2", x, 5, 9 * 10 + 6 + 5, 9 * 10 + 6, 1, 0, 12);
        due("11 and 2", 4, x.run(0, 0, 10, 0));
        ranDue("11 and 2", x, 0, 10 * 8 + 6 + 4, 10 * 8 + 6 + 4, 0, 1, 12);
        due("still one kept", 1, x.told(1));
        due("its hits", 1, x.kept(0, 7));
        // 2 is not there: then it is no call, and the kept refusal fits at the 12th call as well
        WorthKeeping y = Checks.made(down, Checks.codes(1, 1, 1, 409));
        y.keep(1, true);
        due("not there at the 12th", 4, y.run(0, 0, 10, 0));
        ranDue("not there at the 12th", y, 0, 90, 90, 0, 1, 12);
        keptDue("not there at the 12th", y, new int[][] {{1, 0, 0, 0, 4, 4, 0, 0, 1}});
        due("not there again", 4, y.run(0, 0, 10, 0));
        ranDue("not there again", y, 0, 90, 86, 1, 0, 12);
    }

    private static void keptCounts() {
        WorthKeeping x = Checks.made(DEEPER);
        x.keep(0, true);
        x.run(0, 5, 3, 0);
        x.run(0, 5, 5, 0);
        ranDue("steps of a hit count", x, 10, 53, 20, 1, 2, 6);
        keptDue("steps of a hit count", x, new int[][] {
            {0, 3, 0, 5, 0, 3, 0, 0, 1}, {0, 7, 0, 6, 0, 13, 1, 0, 1}, {0, 7, 0, 7, 0, 23, 2, 0, 1},
            {0, 7, 0, 8, 0, 33, 3, 1, 1}, {0, 7, 0, 9, 0, 43, 4, 0, 1}, {0, 7, 0, 10, 0, 53, 5, 0, 1}});
        // an empty routine that is kept
        WorthKeeping y = Checks.made(Checks.codes());
        y.keep(0, true);
        y.run(0, 1, 2, 3);
        y.run(0, 4, 5, 6);
        ranDue("empty and kept", y, 0, 0, 0, 1, 0, 1);
        keptDue("empty and kept", y, new int[][] {{0, 0, 0, 0, 0, 0, 0, 1, 1}});
        // without room there are misses alone
        y.room(0, 0);
        y.run(0, 1, 2, 3);
        ranDue("no room", y, 0, 0, 0, 0, 1, 1);
        due("no room", 0, y.told(1));
    }

    /** 6 steps if its number 0 is less than 1, 10 if it is 2, else 13. */
    private static final int[] LONGER = {100, 1, 504, 602, 0, 620, 100, 2, 505, 602, 0, 620, 1, 1, 1, 1, 1};

    private static WorthKeeping withFourKept(int rule) {
        WorthKeeping x = Checks.made(LONGER);
        x.keep(0, true);
        x.room(4, rule);
        x.run(0, 9, 0, 0);
        x.run(0, 2, 0, 0);
        x.run(0, 0, 0, 0);
        x.run(0, -1, 0, 0);
        x.run(0, 9, 0, 0);
        due("a hit", 1, x.ran(2));
        x.run(0, 2, 0, 0);
        due("a hit", 1, x.ran(2));
        return x;
    }

    private static void numbersDue(String what, WorthKeeping x, int... numbers) {
        due(what + ": kept ones", numbers.length, x.told(1));
        for (int i = 0; i < numbers.length; i++) {
            due(what + ": number of " + i, numbers[i], x.kept(i, 10));
        }
    }

    private static void rulesOfRoom() {
        WorthKeeping x = withFourKept(0);
        numbersDue("ahead", x, 9, 2, 0, -1);
        x.run(0, 8, 0, 0);
        numbersDue("rule 0", x, 9, 2, -1, 8);
        x.run(0, 7, 0, 0);
        numbersDue("rule 0", x, 9, 2, 8, 7);
        x.run(0, 6, 0, 0);
        numbersDue("rule 0", x, 2, 8, 7, 6);
        for (int i = 1; i < 4; i++) {
            due("new ones have no hits", 0, x.kept(i, 7));
        }
        x = withFourKept(1);
        x.run(0, 8, 0, 0);
        due("a new one has no hits", 0, x.kept(3, 7));
        numbersDue("rule 1", x, 2, 0, -1, 8);
        x.run(0, 7, 0, 0);
        numbersDue("rule 1", x, 0, -1, 8, 7);
        x = withFourKept(2);
        int[] steps = {x.kept(0, 5), x.kept(1, 5), x.kept(2, 5), x.kept(3, 5)};
        CHECKS.isTrue("fewest steps: the third, as the fourth", steps[2] == steps[3]
                && steps[2] < steps[1] && steps[1] < steps[0]);
        x.run(0, 8, 0, 0);
        numbersDue("rule 2", x, 9, 2, -1, 8);
        x.run(0, -5, 0, 0);
        numbersDue("rule 2, the new one has as few", x, 9, 2, 8, -5);
        x.run(0, 7, 0, 0);
        numbersDue("rule 2", x, 9, 2, 8, 7);
        x.run(0, 0, 0, 0);
        numbersDue("rule 2, the new one stays", x, 9, 8, 7, 0);
    }

    private static void roomIsToldAnew() {
        WorthKeeping x = withFourKept(0);
        for (int[] wrong : new int[][] {{-1, 0}, {33, 0}, {LEAST, 1}, {MOST, 1}, {2, -1}, {2, 3}, {2, LEAST}, {2, MOST}}) {
            due("room(" + wrong[0] + ", " + wrong[1] + ")", -2, x.room(wrong[0], wrong[1]));
        }
        due("room stays", 4, x.told(2));
        due("rule stays", 0, x.told(3));
        due("as many as there are", 0, x.room(4, 2));
        due("rule", 2, x.told(3));
        due("two go", 2, x.room(2, 1));
        numbersDue("the first ones go", x, 0, -1);
        due("room", 2, x.told(2));
        due("none goes", 0, x.room(32, 0));
        for (int i = 0; i < 40; i++) {
            x.run(0, 100 + i, 0, 0);
        }
        due("32 at most", 32, x.told(1));
        due("the last one", 139, x.kept(31, 10));
        due("all go", 32, x.room(0, 0));
        due("none", 0, x.told(1));
        due("there are none", 0, x.room(0, 2));
    }

    private static void keptIsAsked() {
        WorthKeeping x = withFourKept(0);
        for (int i : new int[] {LEAST, -1, 4, 5, 32, MOST}) {
            due("kept(" + i + ", 0)", -1001, x.kept(i, 0));
            due("kept(" + i + ", 9)", -1001, x.kept(i, 9));
        }
        for (int what : new int[] {LEAST, -1, 9, 13, 14, 19, 36, 37, 100, MOST}) {
            due("kept(3, " + what + ")", -1002, x.kept(3, what));
        }
        due("the last store", 0, x.kept(3, 35));
        due("number 2", 0, x.kept(3, 12));
    }
}
