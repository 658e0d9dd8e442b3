/** "Terms", its first paragraph and its part 1: each sentence that names a boundary case. */
public final class TermsOfProgramsTest {
    private static final int LEAST = Integer.MIN_VALUE;
    private static final int MOST = Integer.MAX_VALUE;
    private static final Sentences S = new Sentences();
    private static final int[] TWENTY = Checks.times(20, 3);

    /** Codes that bring a number, those that take one away, two for one, and three for one. */
    private static final int[] BRINGING = {0, 99, 100, 101, 102, 200, 215, 507, 508};
    private static final int[] TAKING_ONE = {300, 315, 506, 601, 620};
    private static final int[] TAKING_TWO = {500, 501, 502, 503, 504, 505};

    public static void main(String[] args) {
        refusalsInOrder();
        S.holds("Ints wrap", TermsOfProgramsTest::intsWrap);
        routinesAndStores();
        rows();
        S.holds("CODES: their kinds and the edges of each", TermsOfProgramsTest::edgesOfCodes);
        plainCodes();
        S.holds("400 and r: the last three are taken (the last of them is its number 2)",
                TermsOfProgramsTest::threeAreTaken);
        operations();
        theLot();
        leavingOut();
        S.holds("its ANSWER is the last number of its row, 0 without", TermsOfProgramsTest::answers);
        S.holds("REFUSED: 1 its row has too few", TermsOfProgramsTest::tooFew);
        S.holds("REFUSED: 2 its row has 20 already", TermsOfProgramsTest::rowIsFull);
        S.holds("REFUSED: 3 a quotient by 0", TermsOfProgramsTest::byZero);
        S.holds("REFUSED: 4 ROUTINE r is not there", TermsOfProgramsTest::notThere);
        S.holds("REFUSED: 4 the CALL would be the 13th of CALLS within one another (with the first one)",
                TermsOfProgramsTest::thirteenthCall);
        S.holds("REFUSED: 5 it would be STEP 2001 of the RUN", TermsOfProgramsTest::step2001);
        S.holds("A STEP is a CODE that is done, or begun to be", TermsOfProgramsTest::whatIsAStep);
        S.holds("400 ones ahead of what is CALLED", TermsOfProgramsTest::callsAreStepsAhead);
        S.holds("Who CALLS one that is REFUSED is so too, alike", TermsOfProgramsTest::refusedAlike);
        S.end();
    }

    private static void refusalsInOrder() {
        WorthKeeping x = Checks.made(Checks.times(40, 1));
        S.holds("the first of these that fits: UNKNOWN, then OUTSIDE", () -> {
            S.refusedDue("code(1, 700)", x, -1, () -> x.code(1, 700));
            S.refusedDue("code(-1, -1)", x, -1, () -> x.code(-1, -1));
        });
        S.holds("the first of these that fits: OUTSIDE, then FULL", () -> {
            S.refusedDue("code(0, 700)", x, -2, () -> x.code(0, 700));
            S.refusedDue("code(0, 7)", x, -4, () -> x.code(0, 7));
        });
        S.holds("the first of these that fits: OUTSIDE, then STATE", () -> {
            S.refusedDue("ran(5)", x, -2, () -> x.ran(5));
            S.refusedDue("ran(-1)", x, -2, () -> x.ran(-1));
            S.refusedDue("ran(4)", x, -3, () -> x.ran(4));
        });
        S.holds("the first of these that fits: UNKNOWN, then FULL", () -> {
            for (int i = 0; i < 20; i++) {
                x.log(0, i, i, i);
            }
            S.refusedDue("log(1, 0, 0, 0)", x, -1, () -> x.log(1, 0, 0, 0));
            S.refusedDue("log(0, 0, 0, 0)", x, -4, () -> x.log(0, 0, 0, 0));
        });
    }

    private static void intsWrap() {
        S.runDue(0, LEAST, Checks.made(Checks.codes(100, 101, 500)), MOST, 1, 0);
        S.runDue(0, MOST, Checks.made(Checks.codes(100, 101, 500)), LEAST, -1, 0);
        S.runDue(0, MOST, Checks.made(Checks.codes(100, 101, 501)), LEAST, 1, 0);
        S.runDue(0, LEAST, Checks.made(Checks.codes(100, 101, 501)), 0, LEAST, 0);
        S.runDue(0, 0, Checks.made(Checks.codes(100, 101, 502)), 1 << 16, 1 << 16, 0);
        S.runDue(0, LEAST, Checks.made(Checks.codes(100, 101, 502)), LEAST, -1, 0);
        S.runDue(0, LEAST, Checks.made(Checks.codes(100, 101, 503)), LEAST, -1, 0);
        S.runDue(0, 1, Checks.made(Checks.codes(100, 101, 504)), LEAST, MOST, 0);
        S.runDue(0, 0, Checks.made(Checks.codes(100, 101, 504)), MOST, LEAST, 0);
    }

    private static void routinesAndStores() {
        S.holds("ROUTINES, 10 at most, numbered from 0 on", () -> {
            WorthKeeping x = new WorthKeeping();
            for (int r = 0; r < 10; r++) {
                S.due("acting(" + r + ") ahead", -1, x.acting(r));
                S.due("routine()", r, x.routine());
                S.due("acting(" + r + ")", 0, x.acting(r));
            }
            S.refusedDue("routine()", x, -4, x::routine);
            S.due("acting(10)", -1, x.acting(10));
        });
        S.holds("take three numbers (0, 1, 2)", () -> {
            for (int i = 0; i < 3; i++) {
                S.runDue(0, new int[] {LEAST, 0, MOST}[i], Checks.made(Checks.codes(100 + i)), LEAST, 0, MOST);
            }
        });
        S.holds("rows of up to 40 CODES", () -> {
            WorthKeeping x = Checks.made(Checks.codes());
            for (int i = 1; i <= 40; i++) {
                S.due("code(0, " + (i % 2 == 0 ? 506 : i) + ")", i, x.code(0, i % 2 == 0 ? 506 : i));
            }
            S.refusedDue("code(0, 1)", x, -4, () -> x.code(0, 1));
            S.runDue(0, 0, x, 0, 0, 0);
            S.ranDue(x, 40, 40, 0, 0, 1);
            S.runDue(0, 40, Checks.made(Checks.joined(Checks.fillers(39), Checks.codes(40))), 0, 0, 0);
        });
        S.holds("STORES 0 to 15 hold ints, 0 at first", () -> {
            WorthKeeping x = new WorthKeeping();
            for (int s = 0; s < 16; s++) {
                S.due("held(" + s + ")", 0, x.held(s));
                S.due("store(" + s + ", LEAST)", 0, x.store(s, LEAST));
                S.due("store(" + s + ", MOST)", LEAST, x.store(s, MOST));
                S.due("held(" + s + ")", MOST, x.held(s));
            }
        });
        S.holds("THE LOT is an int (1 at first)", () -> {
            WorthKeeping x = new WorthKeeping();
            S.due("told(6)", 1, x.told(6));
            S.due("lot(LEAST)", 1, x.lot(LEAST));
            S.due("lot(MOST)", LEAST, x.lot(MOST));
            S.due("told(6)", MOST, x.told(6));
        });
    }

    private static void rows() {
        S.holds("a row of its own", () -> {
            // the row of who calls is as it was behind the call, but for what the call took and brought
            S.runDue(0, 8, Checks.made(Checks.codes(7, 1, 2, 3, 401, 506, 1, 500), Checks.times(20, 9)), 0, 0, 0);
            S.runDue(1, 0, Checks.made(Checks.codes(7, 1, 2, 3, 401), Checks.codes(506)), 0, 0, 0);
        });
        S.holds("numbers, 20 at most", () -> {
            S.codesDue(0, 3, TWENTY);
            S.codesDue(2, 0, Checks.times(21, 3));
            // both rows may have 20
            S.runDue(0, 3, Checks.made(Checks.joined(TWENTY, Checks.codes(401, 3, 3)), TWENTY), 0, 0, 0);
        });
        S.holds("empty at first", () -> {
            S.codesDue(1, 0, 506);
            WorthKeeping x = Checks.made(Checks.codes(1, 2, 3));
            S.runDue(0, 3, x, 0, 0, 0);
            x.routine();
            S.due("run of an empty one behind it", 0, x.run(1, 0, 0, 0));
            S.due("answer()", 0, x.answer());
            // the second of two calls on the same level
            S.runDue(0, 0, Checks.made(Checks.codes(1, 2, 3, 401, 1, 2, 3, 402), Checks.codes(9), Checks.codes()), 0, 0, 0);
        });
    }

    private static void edgesOfCodes() {
        int[][] ranges = {{0, 99}, {100, 102}, {200, 215}, {300, 315}, {400, 409}, {500, 508}, {601, 620}};
        int next = 0;
        for (int[] range : ranges) {
            for (int c : new int[] {next, next + 1, range[0] - 1}) {
                if (c >= next && c < range[0]) {
                    S.due("code(0, " + c + ")", -2, Checks.made(Checks.codes()).code(0, c));
                }
            }
            S.due("code(0, " + range[0] + ")", 1, Checks.made(Checks.codes()).code(0, range[0]));
            S.due("code(0, " + range[1] + ")", 1, Checks.made(Checks.codes()).code(0, range[1]));
            next = range[1] + 1;
        }
        for (int c : new int[] {LEAST, LEAST + 1, -601, -100, -99, -1, 600, 621, 699, 700, 701, 1000, 65536, MOST}) {
            WorthKeeping x = Checks.made(Checks.codes());
            S.refusedDue("code(0, " + c + ")", x, -2, () -> x.code(0, c));
        }
    }

    private static void plainCodes() {
        S.holds("0 to 99 that number comes to the row's end", () -> {
            for (int c : new int[] {0, 1, 98, 99}) {
                S.codesDue(0, c, 5, c);
            }
        });
        S.holds("200 and s: what STORE s holds; 300 and s: the last one is taken, and STORE s holds it", () -> {
            for (int s = 0; s < 16; s++) {
                WorthKeeping x = Checks.made(Checks.codes(200 + s, 9, 300 + s, 200 + s, 501));
                x.store(s, -30);
                S.runDue(0, -39, x, 0, 0, 0);
                for (int other = 0; other < 16; other++) {
                    S.due("held(" + other + ")", other == s ? 9 : 0, x.held(other));
                }
            }
        });
    }

    private static void threeAreTaken() {
        int[] digits = {100, 10, 502, 101, 500, 10, 502, 102, 500};
        S.runDue(0, 123, Checks.made(Checks.codes(1, 2, 3, 401), digits), 0, 0, 0);
        S.runDue(0, 9, Checks.made(Checks.codes(9, 1, 2, 3, 401, 506), digits), 0, 0, 0);
        S.runDue(1, 0, Checks.made(Checks.codes(1, 2, 3, 401, 506, 506), digits), 0, 0, 0);
        S.runDue(0, 333, Checks.made(Checks.joined(TWENTY, Checks.codes(401)), digits), 0, 0, 0);
        // behind a call on a full row there is room for two
        S.runDue(0, 2, Checks.made(Checks.joined(TWENTY, Checks.codes(401, 1, 2)), digits), 0, 0, 0);
        S.runDue(2, 0, Checks.made(Checks.joined(TWENTY, Checks.codes(401, 1, 2, 3)), digits), 0, 0, 0);
    }

    private static void operations() {
        S.holds("1 difference (the one ahead less the last one)", () -> S.codesDue(0, -4, 5, 9, 501));
        S.holds("3 quotient (cut)", () -> {
            int[][] cases = {{7, 2, 3}, {-7, 2, -3}, {7, -2, -3}, {-7, -2, 3}, {1, 2, 0}, {-1, 2, 0}, {0, -5, 0},
                {MOST, 1, MOST}, {LEAST, 1, LEAST}, {MOST, LEAST, 0}, {LEAST, MOST, -1}};
            for (int[] one : cases) {
                S.runDue(0, one[2], Checks.made(Checks.codes(100, 101, 503)), one[0], one[1], 0);
            }
        });
        S.holds("4 whether the one ahead is less (1, 0)", () -> {
            S.codesDue(0, 1, 4, 5, 504);
            S.codesDue(0, 0, 5, 5, 504);
            S.codesDue(0, 0, 6, 5, 504);
        });
        S.holds("5 whether they are alike", () -> {
            S.codesDue(0, 0, 4, 5, 505);
            S.codesDue(0, 1, 5, 5, 505);
            S.codesDue(0, 0, 6, 5, 505);
        });
        S.holds("of 0 to 5 two are taken, one comes", () -> {
            for (int c : TAKING_TWO) {
                S.codesDue(0, 8, 8, 2, 1, c, 506);
                S.codesDue(1, 0, 2, 1, c, 506, 506);
                S.codesDue(0, 7, Checks.joined(TWENTY, Checks.codes(c, 7)));
                S.codesDue(2, 0, Checks.joined(TWENTY, Checks.codes(c, 7, 7)));
            }
        });
        S.holds("6 the last one is taken away; 7 it comes once more", () -> {
            S.codesDue(0, 8, 8, 9, 506);
            S.codesDue(0, 18, 8, 9, 507, 500);
            S.codesDue(0, 8, 8, 9, 507, 506, 506);
        });
    }

    private static void theLot() {
        S.holds("THE LOT becomes 69069 times it and 1, what comes is it shifted to the right by 16 (without sign)", () -> {
            for (int lot : new int[] {0, 1, -1, 12345, LEAST, MOST}) {
                WorthKeeping x = Checks.made(Checks.codes(508));
                x.lot(lot);
                int next = (int) (69069L * lot + 1);
                S.runDue(0, (int) ((next & 0xFFFFFFFFL) / 65536), x, 0, 0, 0);
                S.due("told(6)", next, x.told(6));
            }
        });
        S.holds("THE LOT goes on from RUN to RUN, also behind a REFUSED one", () -> {
            WorthKeeping x = Checks.made(Checks.codes(508, 506, 506));
            S.runDue(1, 0, x, 0, 0, 0);
            S.due("told(6)", 69070, x.told(6));
            S.runDue(1, 0, x, 0, 0, 0);
            S.due("told(6)", 69070 * 69069 + 1, x.told(6));
        });
    }

    private static void leavingOut() {
        S.holds("600 and k: the last one is taken", () -> {
            S.codesDue(0, 8, 8, 1, 601);
            S.codesDue(0, 8, 8, 0, 601);
        });
        S.holds("if it is 0, k CODES are left out", () -> {
            for (int k = 1; k <= 20; k++) {
                int[] codes = Checks.joined(Checks.codes(100, 600 + k), Checks.times(k, 506), Checks.codes(5));
                WorthKeeping x = Checks.made(codes);
                S.runDue(0, 5, x, 0, 0, 0);
                S.ranDue(x, 3, 3, 0, 0, 1);
                for (int a : new int[] {1, -1, 256, LEAST, MOST}) {
                    S.runDue(1, 0, x, a, 0, 0);
                    S.ranDue(x, 3, 3, 0, 0, 1);
                }
            }
        });
        S.holds("as far as there are", () -> {
            for (int there = 0; there < 20; there++) {
                WorthKeeping x = Checks.made(Checks.joined(Checks.codes(8, 0, 620), Checks.times(there, 5)));
                S.runDue(0, 8, x, 0, 0, 0);
                S.ranDue(x, 3, 3, 0, 0, 1);
            }
            // as the last of 40, and in one that is called
            S.codesDue(0, 1, Checks.joined(Checks.fillers(37), Checks.codes(1, 0, 620)));
            WorthKeeping y = Checks.made(Checks.codes(1, 2, 3, 401, 5, 500), Checks.codes(100, 0, 620, 7));
            S.runDue(0, 6, y, 0, 0, 0);
            S.ranDue(y, 9, 9, 0, 0, 2);
        });
    }

    private static void answers() {
        S.codesDue(0, 0);
        S.codesDue(0, 0, 5, 506);
        S.codesDue(0, 6, 5, 6);
        S.runDue(0, LEAST, Checks.made(Checks.codes(5, 100)), LEAST, 0, 0);
        // what is called without a number at its end gives 0, which is a number
        S.runDue(0, 1, Checks.made(Checks.codes(1, 2, 3, 401, 0, 505), Checks.codes()), 0, 0, 0);
    }

    private static void tooFew() {
        for (int c : TAKING_ONE) {
            S.codesDue(1, 0, c);
            S.codesDue(0, 0, 5, c);
            S.codesDue(1, 0, 5, 506, c);
        }
        S.codesDue(1, 0, 507);
        for (int c : TAKING_TWO) {
            S.codesDue(1, 0, c);
            S.codesDue(1, 0, 5, c);
        }
        for (int c : new int[] {400, 401, 409}) {
            S.codesDue(1, 0, c);
            S.codesDue(1, 0, 5, c);
            S.codesDue(1, 0, 5, 6, c);
        }
        // a code that is refused does nothing of what it would do
        WorthKeeping x = Checks.made(Checks.codes(303));
        x.store(3, 7);
        S.runDue(1, 0, x, 0, 0, 0);
        S.due("held(3)", 7, x.held(3));
    }

    private static void rowIsFull() {
        for (int c : BRINGING) {
            S.due("run, 19 and " + c, 0, Checks.made(Checks.joined(Checks.times(19, 3), Checks.codes(c))).run(0, 0, 0, 0));
            S.codesDue(2, 0, Checks.joined(TWENTY, Checks.codes(c)));
        }
        for (int c : TAKING_ONE) {
            S.codesDue(0, 3, Checks.joined(TWENTY, Checks.codes(c)));
        }
        WorthKeeping x = Checks.made(Checks.joined(TWENTY, Checks.codes(508)));
        S.runDue(2, 0, x, 0, 0, 0);
        S.due("told(6), as no LOT was drawn", 1, x.told(6));
    }

    private static void byZero() {
        for (int a : new int[] {0, 1, -1, LEAST, MOST}) {
            S.runDue(3, 0, Checks.made(Checks.codes(100, 101, 503)), a, 0, 0);
        }
        S.codesDue(0, 0, 0, 5, 503);
        // with too few for it there is no quotient yet
        S.codesDue(1, 0, 0, 503);
        for (int c : new int[] {500, 501, 502, 504, 505}) {
            S.due("run", 0, Checks.made(Checks.codes(5, 0, c)).run(0, 0, 0, 0));
        }
    }

    private static void notThere() {
        for (int there = 2; there <= 10; there++) {
            for (int r = 1; r < 10; r++) {
                int[][] all = new int[there][0];
                all[0] = Checks.codes(1, 2, 3, 400 + r, 5);
                WorthKeeping x = Checks.made(all);
                S.runDue(r < there ? 0 : 4, r < there ? 5 : 0, x, 0, 0, 0);
                S.ranDue(x, r < there ? 5 : 4);
            }
        }
        WorthKeeping y = Checks.made(Checks.codes(1, 2, 3, 401));
        S.runDue(4, 0, y, 0, 0, 0);
        S.ranDue(y, 4, 4, 0, 0, 1);
        y.routine();
        S.runDue(0, 0, y, 0, 0, 0);
        S.ranDue(y, 4, 4, 0, 0, 2);
    }

    /** Goes down as often as its number 1 says: 8 steps for each, and 2 for the last. */
    private static final int[] DOWN = {101, 606, 100, 101, 1, 501, 102, 400};

    private static void thirteenthCall() {
        WorthKeeping x = Checks.made(DOWN);
        for (int within = 0; within < 12; within++) {
            S.runDue(0, 0, x, 5, within, 0);
            S.ranDue(x, 8 * within + 2, 8 * within + 2, 0, 0, within + 1);
        }
        for (int within : new int[] {12, 13, 14, 100, MOST, -1, LEAST}) {
            S.runDue(4, 0, x, 5, within, 0);
            S.ranDue(x, 96, 96, 0, 0, 12);
        }
        // calls one behind the other are not within one another
        WorthKeeping y = Checks.made(Checks.times(10, 1, 2, 3, 401), Checks.codes(1, 2, 3, 402), Checks.codes(5));
        S.runDue(0, 5, y, 0, 0, 0);
        S.ranDue(y, 90, 90, 0, 0, 3);
        // the 12th with too few in its row is refused for that, and one that is not there as well
        S.runDue(1, 0, Checks.made(Checks.joined(Checks.codes(101, 607), Checks.codes(100, 101, 1, 501, 102, 400),
                Checks.codes(506, 400))), 5, 11, 0);
    }

    private static void step2001() {
        WorthKeeping x = Checks.afterSteps(1999, Checks.codes(7));
        S.runDue(0, 7, x, 0, 0, 0);
        S.ranDue(x, 2000, 2000, 0, 0, 4);
        WorthKeeping y = Checks.afterSteps(1999, Checks.codes(7, 300));
        S.runDue(5, 0, y, 0, 0, 0);
        S.ranDue(y, 2000, 2000, 0, 0, 4);
        S.due("held(0), as STEP 2001 is not done", 0, y.held(0));
        // the 2000th is done also if it acts
        WorthKeeping z = Checks.afterSteps(1998, Checks.codes(7, 300, 508));
        S.runDue(5, 0, z, 0, 0, 0);
        S.due("held(0)", 7, z.held(0));
        S.due("told(6)", 1, z.told(6));
        // codes that would be refused, too, and one that is left out
        for (int c : new int[] {506, 500, 400, 503}) {
            S.runDue(5, 0, Checks.afterSteps(2000, Checks.codes(c)), 0, 0, 0);
        }
        S.runDue(0, 0, Checks.afterSteps(1998, Checks.codes(0, 601, 9)), 0, 0, 0);
        // each run has steps of its own
        S.runDue(0, 7, x, 0, 0, 0);
    }

    private static void whatIsAStep() {
        int[][] refused = {{506}, {5, 500}, {1, 2, 409}, {1, 0, 503}, {1, 2, 3, 409}};
        for (int[] codes : refused) {
            WorthKeeping x = Checks.made(codes);
            x.run(0, 0, 0, 0);
            S.ranDue(x, codes.length, codes.length, 0, 0, 1);
        }
        // as the 2000th it may be refused by what is wrong with it
        S.runDue(1, 0, Checks.afterSteps(1999, Checks.codes(506)), 0, 0, 0);
        S.runDue(3, 0, Checks.afterSteps(1997, Checks.codes(1, 0, 503)), 0, 0, 0);
        WorthKeeping none = Checks.made(Checks.codes());
        none.run(0, 0, 0, 0);
        S.ranDue(none, 0, 0, 0, 0, 1);
    }

    private static void callsAreStepsAhead() {
        // the call is step 2000: what it calls may have no codes, but not one
        WorthKeeping x = Checks.afterSteps(1996, Checks.codes(1, 2, 3, 401), Checks.codes());
        S.runDue(0, 0, x, 0, 0, 0);
        S.ranDue(x, 2000, 2000, 0, 0, 4);
        WorthKeeping y = Checks.afterSteps(1996, Checks.codes(1, 2, 3, 401), Checks.codes(5));
        S.runDue(5, 0, y, 0, 0, 0);
        S.ranDue(y, 2000, 2000, 0, 0, 4);
        WorthKeeping z = Checks.afterSteps(1995, Checks.codes(1, 2, 3, 401), Checks.codes(5));
        S.runDue(0, 5, z, 0, 0, 0);
        // the call would be step 2001 itself
        WorthKeeping w = Checks.afterSteps(1997, Checks.codes(1, 2, 3, 401), Checks.codes());
        S.runDue(5, 0, w, 0, 0, 0);
        // a call that is refused was begun
        WorthKeeping v = Checks.made(Checks.codes(1, 2, 3, 401), Checks.codes(506));
        S.runDue(1, 0, v, 0, 0, 0);
        S.ranDue(v, 5, 5, 0, 0, 2);
    }

    private static void refusedAlike() {
        int[][] wrong = {Checks.codes(506), Checks.times(21, 1), Checks.codes(1, 0, 503), Checks.codes(1, 1, 1, 409)};
        for (int i = 0; i < wrong.length; i++) {
            WorthKeeping x = Checks.made(Checks.codes(6, 1, 2, 3, 401, 9, 300), Checks.codes(7, 1, 2, 3, 402, 9, 300), wrong[i]);
            S.runDue(i + 1, 0, x, 0, 0, 0);
            S.due("held(0), as who calls does no more", 0, x.held(0));
        }
        // too deep and too long, too
        WorthKeeping deep = Checks.made(Checks.joined(DOWN, Checks.codes(1, 300)));
        S.runDue(4, 0, deep, 0, 12, 0);
        S.due("held(0)", 0, deep.held(0));
        WorthKeeping far = Checks.afterSteps(1991, Checks.codes(1, 2, 3, 401, 9, 300), Checks.codes(1, 2, 3, 402, 9, 300), Checks.codes(8, 8));
        S.runDue(5, 0, far, 0, 0, 0);
        S.due("held(0)", 0, far.held(0));
    }
}
