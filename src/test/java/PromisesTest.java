/** Promises 1 to 21: a test for each refusal that they name and for each word in brackets. */
public final class PromisesTest {
    private static final int LEAST = Integer.MIN_VALUE;
    private static final int MOST = Integer.MAX_VALUE;
    private static final Sentences S = new Sentences();

    public static void main(String[] args) {
        aNewObject();
        routineAndCode();
        codeAt();
        storesAndLot();
        actingAndReads();
        runAndAnswer();
        ran();
        keep();
        roomAndForget();
        kept();
        logAndClear();
        costAndBest();
        told();
        S.end();
    }

    /**
     * Five routines: 0 and 4 are kept, 1 acts, 2 draws, 3 is pure and not kept; three kept ones in
     * a room of 5 by rule 2, a latest run that drew and stored, and a log of three.
     */
    private static WorthKeeping busy() {
        WorthKeeping x = Checks.made(Checks.codes(100, 203, 500), Checks.codes(1, 2, 3, 400, 1, 2, 3, 402, 305),
                Checks.codes(508), Checks.codes(101), Checks.codes(1, 1, 1, 409));
        x.keep(0, true);
        x.keep(4, true);
        x.room(5, 2);
        x.store(3, 30);
        x.lot(77);
        x.run(0, 8, 0, 0);
        x.run(4, 0, 0, 0);
        x.run(1, 0, 0, 0);
        x.log(0, 1, 2, 3);
        x.log(1, 4, 5, 6);
        x.log(0, 1, 5, 6);
        return x;
    }

    private static int[] wrongRoutines(int there) {
        return new int[] {LEAST, LEAST + 1, -2, -1, there, there + 1, 32, 256, 65536, MOST - 1, MOST};
    }

    private static void aNewObject() {
        S.holds("1: No ROUTINES; nothing KEPT; RULE 0", () -> {
            WorthKeeping x = new WorthKeeping();
            int[] want = {0, 0, 8, 0, 0, 0, 1};
            for (int what = 0; what < 7; what++) {
                S.due("told(" + what + ")", want[what], x.told(what));
            }
            S.due("acting(0)", -1, x.acting(0));
            S.due("kept(0, 0)", -1001, x.kept(0, 0));
            S.due("forget()", 0, x.forget());
        });
        S.holds("1: each object is its own", () -> {
            WorthKeeping x = busy();
            String before = Seen.of(x);
            WorthKeeping y = busy();
            S.isTrue("made alike, they are alike", before.equals(Seen.of(y)));
            y.forget();
            y.store(3, 31);
            y.lot(5);
            y.run(3, 9, 9, 9);
            y.code(0, 1);
            y.clear();
            y.room(0, 0);
            S.isTrue("the other stays as it was", before.equals(Seen.of(x)));
        });
    }

    private static void routineAndCode() {
        S.holds("2: A ROUTINE without CODES: its number. FULL.", () -> {
            WorthKeeping x = busy();
            for (int r = 5; r < 10; r++) {
                S.due("routine()", r, x.routine());
                S.due("codeAt(" + r + ", 0)", -6, x.codeAt(r, 0));
                S.due("told(0)", r + 1, x.told(0));
            }
            x.run(0, 1, 2, 3);
            S.refusedDue("routine(), the 11th", x, -4, x::routine);
            S.refusedDue("routine(), the 12th", x, -4, x::routine);
        });
        S.holds("2: (Nothing is KEPT any more.)", () -> {
            WorthKeeping x = busy();
            S.due("told(1)", 3, x.told(1));
            x.routine();
            S.due("told(1)", 0, x.told(1));
            S.due("kept(0, 0)", -1001, x.kept(0, 0));
            S.due("told(5)", 17, x.told(5));
            x.run(0, 8, 0, 0);
            S.ranDue(x, 3, 3, 0, 1, 1);
        });
        S.holds("3: A CODE more: how many it has. UNKNOWN; OUTSIDE; FULL.", () -> {
            WorthKeeping x = busy();
            for (int r : wrongRoutines(5)) {
                S.refusedDue("code(" + r + ", 1)", x, -1, () -> x.code(r, 1));
            }
            for (int c : new int[] {-1, 103, 199, 216, 299, 316, 399, 410, 499, 509, 599, 600, 621, 700, LEAST, MOST}) {
                S.refusedDue("code(0, " + c + ")", x, -2, () -> x.code(0, c));
            }
            for (int i = 4; i <= 40; i++) {
                S.due("code(0, 1)", i, x.code(0, 1));
            }
            S.due("codeAt(0, 39)", 1, x.codeAt(0, 39));
            x.run(4, 0, 0, 0);
            S.refusedDue("code(0, 300), the 41st", x, -4, () -> x.code(0, 300));
        });
        S.holds("3: (Nothing is KEPT any more;", () -> {
            WorthKeeping x = busy();
            S.due("code(3, 5), of one that is not kept", 2, x.code(3, 5));
            S.due("told(1)", 0, x.told(1));
            S.due("told(5)", 17, x.told(5));
        });
        S.holds("3: ROUTINES that may ACT or DRAW now are not told to be kept any more.)", () -> {
            for (int c : new int[] {300, 508, 401, 402}) {
                WorthKeeping x = busy();
                x.keep(3, true);
                S.due("told(5)", 25, x.told(5));
                x.code(3, c);
                S.due("told(5)", 17, x.told(5));
                S.due("keep(3, true)", -5, x.keep(3, true));
                // who calls it goes as well
                WorthKeeping y = busy();
                y.code(0, 403);
                S.due("told(5)", 17, y.told(5));
                y.code(3, c);
                S.due("told(5)", 16, y.told(5));
            }
        });
    }

    private static void codeAt() {
        S.holds("4: A CODE; NONE beyond. UNKNOWN: the ROUTINE.", () -> {
            WorthKeeping x = Checks.made(Checks.codes(), Checks.codes(0), Checks.times(40, 620));
            S.due("codeAt(0, 0)", -6, x.codeAt(0, 0));
            S.due("codeAt(1, 0)", 0, x.codeAt(1, 0));
            S.due("codeAt(1, 1)", -6, x.codeAt(1, 1));
            S.due("codeAt(2, 39)", 620, x.codeAt(2, 39));
            for (int i : new int[] {LEAST, -40, -1, 40, 41, MOST}) {
                S.due("codeAt(2, " + i + ")", -6, x.codeAt(2, i));
            }
            for (int r : wrongRoutines(3)) {
                S.due("codeAt(" + r + ", 0)", -1, x.codeAt(r, 0));
                S.due("codeAt(" + r + ", 40)", -1, x.codeAt(r, 40));
            }
        });
    }

    private static void storesAndLot() {
        S.holds("5: A STORE holds a number: what it held. (0: there is none.)", () -> {
            WorthKeeping x = busy();
            S.due("store(3, 31)", 30, x.store(3, 31));
            S.due("store(3, 30)", 31, x.store(3, 30));
            for (int s : new int[] {LEAST, -16, -1, 16, 17, 32, 256, MOST}) {
                S.refusedDue("store(" + s + ", 7)", x, 0, () -> x.store(s, 7));
            }
            S.due("store(0, MOST)", 0, x.store(0, MOST));
            S.due("store(15, LEAST)", 0, x.store(15, LEAST));
            S.due("store(15, 0)", LEAST, x.store(15, 0));
        });
        S.holds("5: KEPT ones stay, and HOLD or not", () -> {
            WorthKeeping x = busy();
            x.store(3, 31);
            S.due("told(1)", 3, x.told(1));
            S.due("kept(0, 8)", 0, x.kept(0, 8));
            S.due("kept(1, 8)", 1, x.kept(1, 8));
            x.store(3, 30);
            S.due("kept(0, 8)", 1, x.kept(0, 8));
        });
        S.holds("6: What a STORE holds; 0.", () -> {
            WorthKeeping x = new WorthKeeping();
            for (int s = 0; s < 16; s++) {
                x.store(s, -1 - s);
            }
            for (int s = 0; s < 16; s++) {
                S.due("held(" + s + ")", -1 - s, x.held(s));
            }
            for (int s : new int[] {LEAST, -16, -1, 16, 17, 32, 256, MOST}) {
                S.due("held(" + s + ")", 0, x.held(s));
            }
        });
        S.holds("7: THE LOT: what it was.", () -> {
            WorthKeeping x = new WorthKeeping();
            int before = 1;
            for (int v : new int[] {0, -1, LEAST, MOST, 1}) {
                S.due("lot(" + v + ")", before, x.lot(v));
                S.due("told(6)", v, x.told(6));
                before = v;
            }
        });
    }

    private static void actingAndReads() {
        S.holds("8: 1 it may ACT, 2 it may DRAW, together. UNKNOWN.", () -> {
            WorthKeeping x = busy();
            int[] want = {0, 3, 2, 0, 0};
            for (int r = 0; r < 5; r++) {
                S.due("acting(" + r + ")", want[r], x.acting(r));
            }
            for (int r : wrongRoutines(5)) {
                S.due("acting(" + r + ")", -1, x.acting(r));
            }
        });
        S.holds("9: STORES that it may READ, as bits. UNKNOWN.", () -> {
            WorthKeeping x = busy();
            int[] want = {8, 8, 0, 0, 0};
            for (int r = 0; r < 5; r++) {
                S.due("reads(" + r + ")", want[r], x.reads(r));
            }
            for (int r : wrongRoutines(5)) {
                S.due("reads(" + r + ")", -1, x.reads(r));
            }
            int[] all = new int[16];
            for (int s = 0; s < 16; s++) {
                all[s] = 200 + s;
            }
            S.due("reads of all", 65535, Checks.made(all).reads(0));
        });
    }

    private static void runAndAnswer() {
        S.holds("10: A RUN: 0 it is over, else by what it is REFUSED. UNKNOWN.", () -> {
            WorthKeeping x = busy();
            S.due("run(3, 0, 0, 0)", 0, x.run(3, 0, 0, 0));
            S.due("run(4, 0, 0, 0)", 4, x.run(4, 0, 0, 0));
            for (int r : wrongRoutines(5)) {
                S.refusedDue("run(" + r + ", 1, 2, 3)", x, -1, () -> x.run(r, 1, 2, 3));
            }
            WorthKeeping none = new WorthKeeping();
            S.refusedDue("run(0, 0, 0, 0)", none, -1, () -> none.run(0, 0, 0, 0));
        });
        S.holds("11: The ANSWER of the latest run(); 0: REFUSED, or there was none.", () -> {
            WorthKeeping x = Checks.made(Checks.codes(100, 101, 503), Checks.codes());
            S.due("answer()", 0, x.answer());
            S.runDue(0, 7, x, 14, 2, 0);
            S.runDue(3, 0, x, 14, 0, 0);
            S.runDue(0, LEAST, x, LEAST, 1, 0);
            S.due("run(2, 0, 0, 0)", -1, x.run(2, 0, 0, 0));
            S.due("answer(), as ahead of it", LEAST, x.answer());
            S.due("run(1, 9, 9, 9)", 0, x.run(1, 9, 9, 9));
            S.due("answer()", 0, x.answer());
            // kept ones give the same
            x.keep(0, true);
            for (int i = 0; i < 2; i++) {
                S.runDue(0, 7, x, 14, 2, 0);
                S.runDue(3, 0, x, 14, 0, 0);
            }
            S.due("ran(2)", 1, x.ran(2));
        });
    }

    private static void ran() {
        S.holds("12: OUTSIDE; STATE: there was none.", () -> {
            WorthKeeping x = Checks.made(Checks.codes(1));
            int[] outside = {LEAST, -1, 5, 6, 10, MOST};
            for (int what : outside) {
                S.due("ran(" + what + ")", -2, x.ran(what));
            }
            for (int what = 0; what < 5; what++) {
                S.due("ran(" + what + ")", -3, x.ran(what));
            }
            x.run(1, 0, 0, 0);
            x.log(0, 0, 0, 0);
            x.cost(1, 8);
            x.best(8);
            for (int what = 0; what < 5; what++) {
                S.due("ran(" + what + "), as there was none yet", -3, x.ran(what));
            }
            x.run(0, 0, 0, 0);
            for (int what : outside) {
                S.due("ran(" + what + ")", -2, x.ran(what));
            }
            S.ranDue(x, 1, 1, 0, 0, 1);
        });
        S.holds("12: Of the latest run()", () -> {
            WorthKeeping x = busy();
            S.ranDue(x, 13, 13, 0, 1, 2);
            x.run(0, 8, 0, 0);
            S.ranDue(x, 3, 0, 1, 0, 1);
            x.forget();
            x.code(0, 1);
            x.cost(-1, 8);
            S.ranDue(x, 3, 0, 1, 0, 1);
        });
        S.holds("12: 4 the most CALLS within one another, as if nothing were kept", () -> {
            WorthKeeping x = Checks.made(Checks.codes(1, 2, 3, 401, 1, 2, 3, 404), Checks.codes(1, 2, 3, 402),
                    Checks.codes(1, 2, 3, 403), Checks.codes(5), Checks.codes(6));
            for (int r = 1; r < 5; r++) {
                x.keep(r, true);
            }
            for (int i = 0; i < 2; i++) {
                x.run(0, 0, 0, 0);
                S.due("ran(4)", 4, x.ran(4));
            }
            S.due("ran(2)", 2, x.ran(2));
            x.keep(0, true);
            for (int i = 0; i < 2; i++) {
                x.run(0, 0, 0, 0);
                S.due("ran(4)", 4, x.ran(4));
            }
            S.ranDue(x, 18, 0, 1, 0, 4);
        });
    }

    private static void keep() {
        S.holds("13: whether it was told so (1, 0)", () -> {
            WorthKeeping x = busy();
            S.due("keep(3, false)", 0, x.keep(3, false));
            S.due("keep(3, true)", 0, x.keep(3, true));
            S.due("keep(3, true)", 1, x.keep(3, true));
            S.due("keep(3, false)", 1, x.keep(3, false));
            S.due("keep(3, false)", 0, x.keep(3, false));
        });
        S.holds("13: UNKNOWN; NO: it may ACT or DRAW.", () -> {
            WorthKeeping x = busy();
            for (boolean is : new boolean[] {true, false}) {
                for (int r : wrongRoutines(5)) {
                    S.refusedDue("keep(" + r + ", " + is + ")", x, -1, () -> x.keep(r, is));
                }
                S.refusedDue("keep(1, " + is + ")", x, -5, () -> x.keep(1, is));
                S.refusedDue("keep(2, " + is + ")", x, -5, () -> x.keep(2, is));
            }
        });
        S.holds("13: (KEPT ones of it go, if it is not.)", () -> {
            WorthKeeping x = busy();
            x.room(32, 0);
            x.run(0, 9, 0, 0);
            int[] routines = {0, 4, 0, 0};
            for (int i = 0; i < 4; i++) {
                S.due("kept(" + i + ", 0)", routines[i], x.kept(i, 0));
            }
            S.due("keep(0, true), none goes", 1, x.keep(0, true));
            S.due("told(1)", 4, x.told(1));
            S.due("keep(3, false), none goes", 0, x.keep(3, false));
            S.due("told(1)", 4, x.told(1));
            S.due("keep(0, false)", 1, x.keep(0, false));
            S.due("told(1)", 1, x.told(1));
            S.keptDue(x, 0, 4, 0, 0, 0, 4, 4, 0, 0, 1);
            S.due("keep(0, true)", 0, x.keep(0, true));
            x.run(0, 9, 0, 0);
            S.ranDue(x, 3, 3, 0, 1, 1);
        });
    }

    private static void roomAndForget() {
        S.holds("14: ROOM, RULE (0 to 2). OUTSIDE.", () -> {
            WorthKeeping x = busy();
            int[][] wrong = {{-1, 0}, {33, 0}, {LEAST, 0}, {MOST, 0}, {0, -1}, {0, 3}, {32, LEAST}, {32, MOST}, {-1, -1}, {33, 3}};
            for (int[] one : wrong) {
                S.refusedDue("room(" + one[0] + ", " + one[1] + ")", x, -2, () -> x.room(one[0], one[1]));
            }
            for (int[] one : new int[][] {{32, 2}, {32, 0}, {3, 1}}) {
                S.due("room(" + one[0] + ", " + one[1] + ")", 0, x.room(one[0], one[1]));
                S.due("told(2)", one[0], x.told(2));
                S.due("told(3)", one[1], x.told(3));
            }
        });
        S.holds("14: how many KEPT ones went (As many of the first ones go as there is no room for.)", () -> {
            for (int rule = 0; rule < 3; rule++) {
                for (int room = 0; room <= 4; room++) {
                    WorthKeeping x = busy();
                    x.run(0, 8, 0, 0);
                    int go = Math.max(0, 3 - room);
                    S.due("room(" + room + ", " + rule + ")", go, x.room(room, rule));
                    S.due("told(1)", 3 - go, x.told(1));
                    int[][] all = {{0, 8, 1}, {4, 0, 0}, {0, 1, 0}};
                    for (int i = 0; i < 3 - go; i++) {
                        S.due("kept(" + i + ", 0)", all[i + go][0], x.kept(i, 0));
                        S.due("kept(" + i + ", 10)", all[i + go][1], x.kept(i, 10));
                        S.due("kept(" + i + ", 7)", all[i + go][2], x.kept(i, 7));
                    }
                    S.due("again", 0, x.room(room, rule));
                }
            }
        });
        S.holds("15: All KEPT ones go: how many there were.", () -> {
            WorthKeeping x = busy();
            S.due("forget()", 3, x.forget());
            S.due("told(1)", 0, x.told(1));
            S.due("kept(0, 0)", -1001, x.kept(0, 0));
            S.due("forget()", 0, x.forget());
            S.due("told(5)", 17, x.told(5));
            x.room(32, 0);
            for (int i = 0; i < 33; i++) {
                x.run(0, i, 0, 0);
            }
            S.due("forget()", 32, x.forget());
        });
    }

    private static void kept() {
        S.holds("16: UNKNOWN (-1001); OUTSIDE (-1002), in that order", () -> {
            WorthKeeping x = busy();
            for (int i : new int[] {LEAST, -1, 3, 4, 31, 32, MOST}) {
                for (int what : new int[] {0, 8, 9, 36, -1}) {
                    S.due("kept(" + i + ", " + what + ")", -1001, x.kept(i, what));
                }
            }
            for (int what : new int[] {LEAST, -1, 9, 13, 19, 36, 40, 100, MOST}) {
                S.due("kept(2, " + what + ")", -1002, x.kept(2, what));
            }
        });
        S.holds("16: 0 ROUTINE .. 20 and s what STORE s was (0: not READ)", () -> {
            WorthKeeping x = busy();
            x.run(0, 8, 5, 5);
            S.keptDue(x, 0, 0, 1, 8, 38, 0, 3, 0, 1, 1);
            S.keptDue(x, 1, 4, 0, 0, 0, 4, 4, 0, 0, 1);
            S.due("kept(0, 10)", 8, x.kept(0, 10));
            S.due("kept(0, 11)", 0, x.kept(0, 11));
            S.due("kept(0, 12)", 0, x.kept(0, 12));
            for (int s = 0; s < 16; s++) {
                S.due("kept(0, " + (20 + s) + ")", s == 3 ? 30 : 0, x.kept(0, 20 + s));
                S.due("kept(1, " + (20 + s) + ")", 0, x.kept(1, 20 + s));
            }
            // as the numbers and the stores are later, what they were stays
            x.store(3, 0);
            S.due("kept(0, 23)", 30, x.kept(0, 23));
            S.due("kept(0, 8)", 0, x.kept(0, 8));
        });
        S.holds("16: places that were used hold nothing of those that went", () -> {
            WorthKeeping x = Checks.made(Checks.codes(100, 101, 102, 200, 215), Checks.codes(5));
            x.keep(0, true);
            x.keep(1, true);
            x.store(0, 3);
            x.store(15, 4);
            x.run(0, 7, 8, 9);
            x.run(0, 7, 8, 9);
            x.forget();
            x.run(1, 7, 8, 9);
            S.keptDue(x, 0, 1, 0, 0, 5, 0, 1, 0, 0, 1);
            for (int what : new int[] {10, 11, 12, 20, 35}) {
                S.due("kept(0, " + what + ")", 0, x.kept(0, what));
            }
        });
    }

    private static void logAndClear() {
        S.holds("17: A RUN more in THE LOG: how many it has. UNKNOWN; FULL.", () -> {
            WorthKeeping x = busy();
            for (int r : wrongRoutines(5)) {
                S.refusedDue("log(" + r + ", 1, 2, 3)", x, -1, () -> x.log(r, 1, 2, 3));
            }
            for (int i = 4; i <= 20; i++) {
                S.due("log(2, ..)", i, x.log(2, 1, 2, 3));
            }
            S.refusedDue("log(2, ..)", x, -4, () -> x.log(2, 1, 2, 3));
            S.refusedDue("log(5, ..)", x, -1, () -> x.log(5, 1, 2, 3));
        });
        S.holds("18: THE LOG is emptied: how many it had.", () -> {
            WorthKeeping x = busy();
            S.due("clear()", 3, x.clear());
            S.due("told(4)", 0, x.told(4));
            S.due("clear()", 0, x.clear());
            S.due("cost(0, 8)", 0, x.cost(0, 8));
            S.due("told(1)", 3, x.told(1));
        });
    }

    private static void costAndBest() {
        S.holds("19: (bits of others do not matter)", () -> {
            WorthKeeping x = busy();
            // 3 steps, 9 of routine 1 with 3 of 0 and 1 of 2 within, and 3 steps
            S.due("cost(0, 8)", 3 + 13 + 3, x.cost(0, 8));
            S.due("cost(1, 8)", 3 + 10, x.cost(1, 8));
            for (int others : new int[] {-32, 1 << 5, 1 << 9, 1 << 10, 1 << 30, LEAST, 2, 4, 6}) {
                S.due("cost(" + others + ", 8)", 19, x.cost(others, 8));
                S.due("cost(" + (others | 1) + ", 8)", 13, x.cost(others | 1, 8));
            }
            S.due("cost(-1, 8)", 13, x.cost(-1, 8));
        });
        S.holds("19: OUTSIDE: ROOM. (All stays as it is.)", () -> {
            WorthKeeping x = busy();
            for (int room : new int[] {LEAST, -1, 33, 34, MOST}) {
                S.refusedDue("cost(1, " + room + ")", x, -2, () -> x.cost(1, room));
            }
            S.refusedDue("cost(1, 0)", x, 19, () -> x.cost(1, 0));
            S.refusedDue("cost(1, 32)", x, 13, () -> x.cost(1, 32));
        });
        S.holds("20: of at most 5 ROUTINES that may be kept (the first such)", () -> {
            for (int acting = 0; acting <= 5; acting++) {
                int[][] all = new int[10][];
                for (int r = 0; r < 10; r++) {
                    all[r] = r < acting ? Checks.codes(1, 300) : Checks.codes(1);
                }
                WorthKeeping x = Checks.made(all);
                for (int r = 0; r < 10; r++) {
                    x.log(r, 0, 0, 0);
                    x.log(r, 0, 0, 0);
                }
                S.due("best(32), the first " + acting + " act", 31 << acting, x.best(32));
                // told to be kept or not
                x.keep(9, true);
                S.due("best(32)", 31 << acting, x.best(32));
            }
            // fewer than five may be kept, and none
            WorthKeeping few = Checks.made(Checks.codes(300), Checks.codes(5), Checks.codes(508), Checks.codes(6));
            for (int r : new int[] {1, 3, 1, 3}) {
                few.log(r, 0, 0, 0);
            }
            S.due("best(8)", 10, few.best(8));
            WorthKeeping none = Checks.made(Checks.codes(1, 300));
            none.log(0, 0, 0, 0);
            none.log(0, 0, 0, 0);
            S.due("best(8)", 0, none.best(8));
        });
        S.holds("20: OUTSIDE.", () -> {
            WorthKeeping x = busy();
            for (int room : new int[] {LEAST, -1, 33, 34, MOST}) {
                S.refusedDue("best(" + room + ")", x, -2, () -> x.best(room));
            }
            S.refusedDue("best(0)", x, 0, () -> x.best(0));
            S.refusedDue("best(32)", x, 1, () -> x.best(32));
        });
    }

    private static void told() {
        S.holds("21: 0 ROUTINES .. 6 THE LOT. OUTSIDE.", () -> {
            WorthKeeping x = busy();
            int[] want = {5, 3, 5, 2, 3, 17, 77 * 69069 + 1};
            for (int what = 0; what < 7; what++) {
                S.due("told(" + what + ")", want[what], x.told(what));
            }
            for (int what : new int[] {LEAST, -1, 7, 8, MOST}) {
                S.due("told(" + what + ")", -2, x.told(what));
            }
        });
        S.holds("21: 5 ROUTINES told to be kept (bits)", () -> {
            WorthKeeping x = Checks.made(new int[10][0]);
            int bits = 0;
            for (int r = 9; r >= 0; r--) {
                S.due("keep(" + r + ", true)", 0, x.keep(r, true));
                bits |= 1 << r;
                S.due("told(5)", bits, x.told(5));
            }
            for (int r = 0; r < 10; r++) {
                S.due("keep(" + r + ", false)", 1, x.keep(r, false));
                bits &= ~(1 << r);
                S.due("told(5)", bits, x.told(5));
            }
        });
    }
}
