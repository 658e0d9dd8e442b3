/** "Terms", its part 2: acting, keeping, the room; each sentence that names a boundary case. */
public final class TermsOfKeepingTest {
    private static final int LEAST = Integer.MIN_VALUE;
    private static final int MOST = Integer.MAX_VALUE;
    private static final Sentences S = new Sentences();

    public static void main(String[] args) {
        acting();
        whatIsKept();
        whatAKeptOneHas();
        holding();
        hits();
        misses();
        aFullRoom();
        S.end();
    }

    /** An object of these routines, all of those told that are kept. */
    private static WorthKeeping keeping(int bits, int[]... routines) {
        WorthKeeping x = Checks.made(routines);
        for (int r = 0; r < routines.length; r++) {
            if ((bits >> r & 1) != 0) {
                x.keep(r, true);
            }
        }
        return x;
    }

    private static void acting() {
        S.holds("may ACT (1), if one of its CODES is a 300 one", () -> {
            for (int c : new int[] {215, 300, 315, 400, 508, 601}) {
                S.due("acting, " + c, c == 508 ? 2 : c / 100 == 3 ? 1 : 0, Checks.made(Checks.codes(c)).acting(0));
            }
            // also if it is never come to, and if it is the last of 40
            S.due("acting, left out", 1, Checks.made(Checks.codes(0, 601, 300)).acting(0));
            S.due("acting, the last", 1, Checks.made(Checks.joined(Checks.times(39, 1), Checks.codes(315))).acting(0));
        });
        S.holds("it may DRAW (2), if one is 508, likewise", () -> {
            S.due("acting, 507", 0, Checks.made(Checks.codes(507)).acting(0));
            S.due("acting, 508", 2, Checks.made(Checks.codes(508)).acting(0));
            S.due("acting, both", 3, Checks.made(Checks.codes(508, 300)).acting(0));
            S.due("acting, through a call", 2, Checks.made(Checks.codes(401), Checks.codes(508)).acting(0));
        });
        S.holds("or CALLS a ROUTINE that may", TermsOfKeepingTest::actingThroughTen);
        S.holds("what it may READ: STORES of 200 CODES, likewise", () -> {
            S.due("reads", 1 | 1 << 15, Checks.made(Checks.codes(200, 215)).reads(0));
            S.due("reads of 300 ones", 0, Checks.made(Checks.codes(300, 315)).reads(0));
            WorthKeeping x = Checks.made(Checks.codes(401, 201), Checks.codes(402, 202), Checks.codes(401, 215));
            S.due("reads of who calls a ring", 2 | 4 | 1 << 15, x.reads(0));
            S.due("reads in the ring", 4 | 1 << 15, x.reads(1));
            S.due("reads in the ring", 4 | 1 << 15, x.reads(2));
        });
        S.holds("CALLS of ROUTINES that are not there do nothing of these", () -> {
            WorthKeeping x = Checks.made(Checks.codes(401, 409));
            S.due("acting", 0, x.acting(0));
            S.due("reads", 0, x.reads(0));
            S.due("keep", 0, x.keep(0, true));
            x.routine();
            S.due("acting, of one without codes", 0, x.acting(0));
            x.code(1, 204);
            x.code(1, 300);
            S.due("acting, as it is there", 1, x.acting(0));
            S.due("reads, as it is there", 16, x.reads(0));
        });
    }

    private static void actingThroughTen() {
        // 0 calls 1, 1 calls 2 and so on; then the other way round
        for (int last = 0; last < 10; last += 9) {
            int[][] all = new int[10][];
            for (int r = 0; r < 10; r++) {
                int called = last == 9 ? r + 1 : r - 1;
                all[r] = r == last ? Checks.codes() : Checks.codes(400 + called);
            }
            WorthKeeping x = Checks.made(all);
            for (int r = 0; r < 10; r++) {
                S.due("acting(" + r + ") ahead", 0, x.acting(r));
            }
            x.code(last, 300);
            x.code(last, 508);
            for (int r = 0; r < 10; r++) {
                S.due("acting(" + r + ")", 3, x.acting(r));
            }
        }
        // who is called by one that acts does not act for that
        S.due("acting of the called", 0, Checks.made(Checks.codes(401, 300), Checks.codes(5)).acting(1));
        // itself, and a ring of two
        S.due("acting of who calls itself", 0, Checks.made(Checks.codes(400)).acting(0));
        S.due("acting of who calls itself", 1, Checks.made(Checks.codes(400, 300)).acting(0));
        S.due("acting in a ring", 2, Checks.made(Checks.codes(401), Checks.codes(400, 508)).acting(0));
    }

    private static void whatIsKept() {
        S.holds("ROUTINES told to be kept", () -> {
            WorthKeeping x = Checks.made(Checks.codes(1, 2, 3, 401), Checks.codes(5));
            S.runDue(0, 5, x, 0, 0, 0);
            S.ranDue(x, 5, 5, 0, 0, 2);
            S.due("told(1), none told", 0, x.told(1));
            x.keep(1, true);
            S.runDue(0, 5, x, 0, 0, 0);
            S.ranDue(x, 5, 5, 0, 1, 2);
            S.due("told(1), the called told", 1, x.told(1));
            S.due("kept(0, 0)", 1, x.kept(0, 0));
            S.runDue(0, 5, x, 0, 0, 0);
            S.ranDue(x, 5, 4, 1, 0, 2);
        });
        S.holds("that may neither ACT nor DRAW", () -> {
            for (int[] codes : new int[][] {{300}, {508}, {300, 508}, {401}, {402}}) {
                WorthKeeping x = Checks.made(codes, Checks.codes(300), Checks.codes(508));
                S.refusedDue("keep(0, true)", x, -5, () -> x.keep(0, true));
                x.run(0, 1, 2, 3);
                S.due("told(1)", 0, x.told(1));
                S.due("ran(3)", 0, x.ran(3));
            }
        });
        S.holds("THE ROOM (0 to 32; 8 at first) is how many KEPT ones there may be", () -> {
            WorthKeeping x = keeping(1, Checks.codes(100));
            S.due("told(2)", 8, x.told(2));
            for (int i = 1; i <= 9; i++) {
                x.run(0, i, 0, 0);
                S.due("told(1)", Math.min(i, 8), x.told(1));
            }
            for (int room : new int[] {0, 1, 2, 31, 32}) {
                WorthKeeping y = keeping(1, Checks.codes(100));
                S.due("room(" + room + ", 0)", 0, y.room(room, 0));
                for (int i = 1; i <= 34; i++) {
                    y.run(0, i, 0, 0);
                    S.due("told(1), room " + room, Math.min(i, room), y.told(1));
                }
            }
            S.refusedDue("room(33, 0)", x, -2, () -> x.room(33, 0));
            S.refusedDue("room(-1, 0)", x, -2, () -> x.room(-1, 0));
        });
    }

    private static void whatAKeptOneHas() {
        S.holds("what was READ by that CALL and those within: numbers it took that were read, with what they were", () -> {
            for (int bits = 0; bits < 8; bits++) {
                WorthKeeping x = keeping(1, readingNumbers(bits));
                x.run(0, LEAST, -1, MOST);
                S.keptDue(x, 0, 0, bits, 0);
                S.due("kept(0, 10)", (bits & 1) != 0 ? LEAST : 0, x.kept(0, 10));
                S.due("kept(0, 11)", (bits & 2) != 0 ? -1 : 0, x.kept(0, 11));
                S.due("kept(0, 12)", (bits & 4) != 0 ? MOST : 0, x.kept(0, 12));
            }
            // numbers that those within took are theirs
            WorthKeeping y = keeping(3, Checks.codes(101, 5, 6, 401), Checks.codes(100, 102));
            y.run(0, 7, 8, 9);
            S.keptDue(y, 0, 1, 5);
            S.keptDue(y, 1, 0, 2);
        });
        S.holds("STORES, likewise", () -> {
            for (int s = 0; s < 16; s++) {
                // 0 reads it through 1 and 2, of which none is kept
                WorthKeeping x = keeping(1, Checks.codes(1, 2, 3, 401), Checks.codes(1, 2, 3, 402), Checks.codes(200 + s));
                x.store(s, LEAST + s);
                x.run(0, 0, 0, 0);
                S.keptDue(x, 0, 0, 0, 1 << s, LEAST + s);
                for (int other = 0; other < 16; other++) {
                    S.due("kept(0, " + (20 + other) + ")", other == s ? LEAST + s : 0, x.kept(0, 20 + other));
                }
            }
            WorthKeeping y = keeping(1, Checks.codes(100, 601, 201, 200));
            y.run(0, 0, 0, 0);
            S.keptDue(y, 0, 0, 1, 1);
            y.run(0, 1, 0, 0);
            S.keptDue(y, 1, 0, 1, 3);
            // its own ones, and those of two calls one behind the other
            WorthKeeping z = keeping(7, Checks.codes(204, 1, 2, 3, 401, 1, 2, 3, 402), Checks.codes(200), Checks.codes(215));
            z.run(0, 0, 0, 0);
            S.keptDue(z, 0, 1, 0, 1);
            S.keptDue(z, 1, 2, 0, 1 << 15);
            S.keptDue(z, 2, 0, 0, 1 | 1 << 4 | 1 << 15);
        });
        S.holds("the ANSWER or REFUSAL (1 to 4 ..", () -> {
            int[][] wrong = {Checks.codes(506), Checks.times(21, 1), Checks.codes(1, 0, 503), Checks.codes(1, 1, 1, 409)};
            for (int i = 0; i < 4; i++) {
                WorthKeeping x = keeping(3, Checks.codes(1, 2, 3, 401), wrong[i]);
                S.runDue(i + 1, 0, x, 0, 0, 0);
                S.keptDue(x, 0, 1, 0, 0, 0, i + 1, wrong[i].length, 0, 0, 1);
                S.keptDue(x, 1, 0, 0, 0, 0, i + 1, wrong[i].length + 4, 1, 0, 1);
                S.runDue(i + 1, 0, x, 0, 0, 0);
                S.ranDue(x, wrong[i].length + 4, 0, 1, 0, 2);
            }
        });
        S.holds(".. but not for too many CALLS within)", TermsOfKeepingTest::tooDeepIsNotKept);
        S.holds("(1 to 4 ..: not 5", () -> {
            WorthKeeping x = Checks.afterSteps(1990, Checks.codes(1, 2, 3, 401), Checks.codes(1, 2, 3, 402), Checks.codes(5, 5, 5));
            for (int r = 0; r < 10; r++) {
                S.due("keep(" + r + ")", 0, x.keep(r, true));
            }
            x.room(32, 0);
            S.runDue(5, 0, x, 0, 0, 0);
            for (int i = 0; i < x.told(1); i++) {
                S.isTrue("kept ones are those of 6 to 9", x.kept(i, 0) >= 6 && x.kept(i, 4) == 0);
            }
        });
        S.holds("how many CALLS within one another it had, itself not counted", () -> {
            WorthKeeping x = keeping(15, Checks.codes(1, 2, 3, 401, 1, 2, 3, 403), Checks.codes(1, 2, 3, 402),
                    Checks.codes(1, 2, 3, 403), Checks.codes());
            x.run(0, 0, 0, 0);
            int[] routines = {3, 2, 1, 0};
            for (int i = 0; i < 4; i++) {
                S.due("kept(" + i + ", 0)", routines[i], x.kept(i, 0));
                S.due("kept(" + i + ", 6)", i, x.kept(i, 6));
            }
        });
    }

    /** Routine 0 goes down as often as its number 1 says, and calls 1 at the end of that. */
    private static final int[] DOWN = {101, 608, 100, 101, 1, 501, 102, 400, 0, 620, 100, 101, 102, 401};

    private static int[] readingNumbers(int bits) {
        return Checks.joined((bits & 1) != 0 ? Checks.codes(100) : Checks.codes(),
                (bits & 2) != 0 ? Checks.codes(101) : Checks.codes(), (bits & 4) != 0 ? Checks.codes(102) : Checks.codes());
    }

    private static void tooDeepIsNotKept() {
        WorthKeeping x = keeping(3, Checks.codes(101, 606, 100, 101, 1, 501, 102, 400), Checks.codes(1, 12, 1, 400));
        S.runDue(4, 0, x, 0, 12, 0);
        S.ranDue(x, 96, 96, 0, 12, 12);
        S.due("told(1)", 0, x.told(1));
        // with one fewer all 12 may be kept
        x.room(32, 0);
        S.runDue(0, 0, x, 0, 11, 0);
        S.due("told(1)", 12, x.told(1));
        // one that is not there is kept, even as the 13th would be too many as well
        WorthKeeping y = keeping(2, DOWN, Checks.codes(1, 1, 1, 409));
        S.runDue(4, 0, y, 0, 10, 0);
        S.ranDue(y, 10 * 8 + 6 + 4, 10 * 8 + 6 + 4, 0, 1, 12);
        S.keptDue(y, 0, 1, 0, 0, 0, 4, 4, 0, 0, 1);
    }

    private static void holding() {
        S.holds("It HOLDS for a CALL, if it is of that ROUTINE", () -> {
            WorthKeeping x = keeping(3, Checks.codes(100), Checks.codes(100));
            x.run(0, 5, 5, 5);
            x.run(1, 5, 5, 5);
            S.ranDue(x, 1, 1, 0, 1, 1);
            S.due("told(1)", 2, x.told(1));
        });
        S.holds("and all that was READ is as it was: the numbers", () -> {
            for (int bits = 0; bits < 8; bits++) {
                for (int other = 0; other < 3; other++) {
                    WorthKeeping x = keeping(1, readingNumbers(bits));
                    int[] numbers = {4, 5, 6};
                    x.run(0, numbers[0], numbers[1], numbers[2]);
                    numbers[other]++;
                    x.run(0, numbers[0], numbers[1], numbers[2]);
                    S.due("HITS, " + bits + " read, another " + other, (bits >> other & 1) != 0 ? 0 : 1, x.ran(2));
                }
            }
        });
        S.holds("and all that was READ is as it was: the STORES", () -> {
            for (int s = 0; s < 16; s++) {
                WorthKeeping x = keeping(1, Checks.codes(1, 2, 3, 401), Checks.codes(200 + s));
                x.run(0, 0, 0, 0);
                for (int other = 0; other < 16; other++) {
                    x.store(other, 7);
                    S.due("kept(0, 8)", other == s ? 0 : 1, x.kept(0, 8));
                    x.store(other, 0);
                    S.due("kept(0, 8), as it was again", 1, x.kept(0, 8));
                }
                x.store((s + 1) % 16, 7);
                x.run(0, 9, 9, 9);
                S.due("HITS, another STORE", 1, x.ran(2));
                x.store(s, 7);
                S.runDue(0, 7, x, 0, 0, 0);
                S.ranDue(x, 5, 5, 0, 1, 2);
                x.store(s, 0);
                S.runDue(0, 0, x, 0, 0, 0);
                S.ranDue(x, 5, 0, 1, 0, 2);
            }
        });
        S.holds("what a HIT has READ is READ by who CALLS it", () -> {
            WorthKeeping x = keeping(3, Checks.codes(100, 2, 3, 401), Checks.codes(211));
            x.run(1, 0, 0, 0);
            x.run(0, 1, 0, 0);
            S.keptDue(x, 1, 0, 1, 1 << 11, 0, 0, 5, 1, 0, 1);
            x.store(11, 3);
            S.runDue(0, 3, x, 1, 0, 0);
            S.ranDue(x, 5, 5, 0, 2, 2);
        });
    }

    private static void hits() {
        S.holds("if its STEPS still are within 2000", () -> {
            // 1 takes 5 steps of its own behind the call's step
            for (int ahead : new int[] {1990, 1991, 1992, 1993}) {
                WorthKeeping x = Checks.afterSteps(ahead, Checks.codes(1, 2, 3, 401), Checks.codes(5, 5, 5, 5, 7));
                x.keep(1, true);
                S.due("run(1, 0, 0, 0)", 0, x.run(1, 0, 0, 0));
                boolean fits = ahead + 4 + 5 <= 2000;
                S.runDue(fits ? 0 : 5, fits ? 7 : 0, x, 0, 0, 0);
                int steps = fits ? ahead + 9 : 2000;
                S.ranDue(x, steps, fits ? steps - 5 : steps, fits ? 1 : 0, fits ? 0 : 1, 4);
                S.due("told(1)", 1, x.told(1));
                S.due("kept(0, 7)", fits ? 1 : 0, x.kept(0, 7));
            }
            // one without steps fits even behind step 2000
            WorthKeeping y = Checks.afterSteps(1996, Checks.codes(1, 2, 3, 401), Checks.codes());
            y.keep(1, true);
            y.run(1, 0, 0, 0);
            S.runDue(0, 0, y, 0, 0, 0);
            S.ranDue(y, 2000, 2000, 1, 0, 4);
            // one that is refused as well: 2 with it are too many, so it is refused by 5
            WorthKeeping z = Checks.afterSteps(1995, Checks.codes(1, 2, 3, 401), Checks.codes(5, 500));
            z.keep(1, true);
            z.run(1, 0, 0, 0);
            S.runDue(5, 0, z, 0, 0, 0);
            S.ranDue(z, 2000, 2000, 0, 1, 4);
        });
        S.holds("and its CALLS within 12", () -> {
            for (int down = 8; down < 12; down++) {
                // 1 has 1 call within it, and is the call number down + 2
                WorthKeeping x = keeping(2, DOWN, Checks.codes(1, 1, 1, 402), Checks.codes(7));
                x.run(1, 0, 0, 0);
                boolean fits = down + 2 + 1 <= 12;
                S.runDue(fits ? 0 : 4, fits ? 7 : 0, x, 0, down, 0);
                S.due("HITS, down " + down, fits ? 1 : 0, x.ran(2));
                S.due("MISSES, down " + down, fits || down == 11 ? 0 : 1, x.ran(3));
                S.due("ran(4)", Math.min(12, down + 3), x.ran(4));
                S.due("told(1)", 1, x.told(1));
            }
        });
        S.holds("the RUN counts its STEPS as done, but not as REAL ones", () -> {
            WorthKeeping x = keeping(2, Checks.codes(1, 2, 3, 401, 1, 2, 3, 401, 500), Checks.codes(100, 101, 500));
            S.runDue(0, 6, x, 0, 0, 0);
            S.ranDue(x, 15, 12, 1, 1, 2);
            S.runDue(0, 6, x, 0, 0, 0);
            S.ranDue(x, 15, 9, 2, 0, 2);
            S.due("kept(0, 7)", 3, x.kept(0, 7));
        });
    }

    private static void misses() {
        S.holds("Else it is a MISS", () -> {
            WorthKeeping x = keeping(1, Checks.codes(100));
            for (int i = 0; i < 3; i++) {
                x.run(0, i, 0, 0);
                S.ranDue(x, 1, 1, 0, 1, 1);
            }
        });
        S.holds("if it may be kept so, and ROOM is not 0", () -> {
            WorthKeeping x = keeping(3, Checks.codes(1, 2, 3, 401), Checks.codes(5));
            x.room(0, 2);
            for (int i = 0; i < 2; i++) {
                S.runDue(0, 5, x, 0, 0, 0);
                S.ranDue(x, 5, 5, 0, 2, 2);
                S.due("told(1)", 0, x.told(1));
            }
            x.room(1, 2);
            S.runDue(0, 5, x, 0, 0, 0);
            S.due("told(1)", 1, x.told(1));
            S.due("kept(0, 0), as the other went ahead of it", 0, x.kept(0, 0));
        });
        S.holds("a new KEPT one comes last", () -> {
            WorthKeeping x = keeping(3, Checks.codes(100, 2, 3, 401), Checks.codes(100));
            x.run(1, 8, 0, 0);
            x.run(0, 9, 0, 0);
            S.numbersDue(x, 8, 9, 9);
            S.due("those within come ahead", 1, x.kept(1, 0));
            S.due("who CALLS comes behind them", 0, x.kept(2, 0));
            x.run(0, 8, 0, 0);
            S.numbersDue(x, 8, 9, 9, 8);
        });
    }

    /** 2 steps if its number 0 is 0, 6 if it is 1, else 11. */
    private static final int[] LONGER = {100, 609, 100, 1, 501, 605, 1, 506, 1, 506, 5};

    /** A room of 4 with as many kept ones, of 11, 2, 6 and 11 steps. */
    private static WorthKeeping full(int rule) {
        WorthKeeping x = keeping(1, LONGER);
        x.room(4, rule);
        for (int a : new int[] {4, 0, 1, 5}) {
            x.run(0, a, 0, 0);
        }
        return x;
    }

    private static void aFullRoom() {
        S.holds("if there is no room, one goes ahead of that", () -> {
            for (int rule = 0; rule < 3; rule++) {
                WorthKeeping x = full(rule);
                S.numbersDue(x, 4, 0, 1, 5);
                x.run(0, 9, 0, 0);
                S.due("told(1)", 4, x.told(1));
                S.due("the new one is last", 9, x.kept(3, 10));
                // a HIT needs no room
                x.run(0, 9, 0, 0);
                S.due("told(1)", 4, x.told(1));
                S.due("kept(3, 7)", 1, x.kept(3, 7));
            }
        });
        S.holds("by RULE 0 the one that was made or HIT longest ago", () -> {
            WorthKeeping x = full(0);
            x.run(0, 4, 0, 0);
            x.run(0, 6, 0, 0);
            S.numbersDue(x, 4, 1, 5, 6);
            x.run(0, 5, 0, 0);
            x.run(0, 1, 0, 0);
            x.run(0, 7, 0, 0);
            S.numbersDue(x, 1, 5, 6, 7);
            x.run(0, 8, 0, 0);
            S.numbersDue(x, 1, 5, 7, 8);
            x.run(0, 9, 0, 0);
            S.numbersDue(x, 1, 7, 8, 9);
            // asking is no HIT, and neither is one that HOLDS, but does not come to be asked for
            x.kept(0, 7);
            x.run(0, 10, 0, 0);
            S.numbersDue(x, 7, 8, 9, 10);
        });
        S.holds("1 the first one", () -> {
            WorthKeeping x = full(1);
            x.run(0, 4, 0, 0);
            x.run(0, 6, 0, 0);
            S.numbersDue(x, 0, 1, 5, 6);
            x.run(0, 7, 0, 0);
            S.numbersDue(x, 1, 5, 6, 7);
        });
        S.holds("2 the one with the fewest STEPS (of several the first)", () -> {
            WorthKeeping x = full(2);
            S.due("kept(0, 5)", 11, x.kept(0, 5));
            S.due("kept(1, 5)", 2, x.kept(1, 5));
            S.due("kept(2, 5)", 6, x.kept(2, 5));
            x.run(0, 6, 0, 0);
            S.numbersDue(x, 4, 1, 5, 6);
            x.run(0, 7, 0, 0);
            S.numbersDue(x, 4, 5, 6, 7);
            x.run(0, 8, 0, 0);
            S.numbersDue(x, 5, 6, 7, 8);
            // the new one has fewer than all others, and yet one of those goes
            x.run(0, 0, 0, 0);
            S.numbersDue(x, 6, 7, 8, 0);
            x.run(0, 1, 0, 0);
            S.numbersDue(x, 6, 7, 8, 1);
        });
        S.holds("the RULE of the moment, not the one by which they came", () -> {
            WorthKeeping x = full(0);
            x.run(0, 4, 0, 0);
            S.due("room(4, 1)", 0, x.room(4, 1));
            x.run(0, 6, 0, 0);
            S.numbersDue(x, 0, 1, 5, 6);
            S.due("room(4, 0)", 0, x.room(4, 0));
            x.run(0, 0, 0, 0);
            x.run(0, 7, 0, 0);
            S.numbersDue(x, 0, 5, 6, 7);
            S.due("room(4, 2)", 0, x.room(4, 2));
            x.run(0, 8, 0, 0);
            S.numbersDue(x, 5, 6, 7, 8);
        });
        S.holds("one goes for each new one, those within ahead of who CALLS", () -> {
            WorthKeeping x = keeping(7, Checks.codes(100, 2, 3, 401), Checks.codes(100, 2, 3, 402), Checks.codes(100));
            x.room(2, 1);
            x.run(0, 6, 0, 0);
            S.numbersDue(x, 6, 6);
            S.due("kept(0, 0)", 1, x.kept(0, 0));
            S.due("kept(1, 0)", 0, x.kept(1, 0));
            x.room(1, 0);
            x.run(0, 7, 0, 0);
            S.numbersDue(x, 7);
            S.due("kept(0, 0)", 0, x.kept(0, 0));
        });
    }
}
