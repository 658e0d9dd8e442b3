/** "Terms", its part 3: the log, the cost and the best; each sentence that names a boundary case. */
public final class TermsOfWorthTest {
    private static final int LEAST = Integer.MIN_VALUE;
    private static final int MOST = Integer.MAX_VALUE;
    private static final Sentences S = new Sentences();

    public static void main(String[] args) {
        theLog();
        theCost();
        theBest();
        S.end();
    }

    /** An object of these routines, with a log of these, each run with three times 0. */
    private static WorthKeeping logged(int[] log, int[]... routines) {
        WorthKeeping x = Checks.made(routines);
        for (int r : log) {
            x.log(r, 0, 0, 0);
        }
        return x;
    }

    private static void theLog() {
        S.holds("THE LOG has up to 20 RUNS told", () -> {
            WorthKeeping x = Checks.made(Checks.codes(1), Checks.codes(1, 2));
            S.due("told(4)", 0, x.told(4));
            for (int i = 1; i <= 20; i++) {
                S.due("log", i, x.log(0, i, LEAST, MOST));
                S.due("told(4)", i, x.told(4));
                S.due("cost(0, 8)", i, x.cost(0, 8));
            }
            S.refusedDue("log, the 21st", x, -4, () -> x.log(1, 1, 1, 1));
            S.due("clear()", 20, x.clear());
            S.due("log", 1, x.log(1, 1, 1, 1));
            S.due("cost(0, 8)", 2, x.cost(0, 8));
        });
        S.holds("RUNS told: each with its ROUTINE and its three numbers", () -> {
            for (int i = 0; i < 3; i++) {
                WorthKeeping x = Checks.made(Checks.codes(1), Checks.codes(100 + i, 603, 1, 1, 1));
                x.log(1, i == 0 ? LEAST : 0, i == 1 ? LEAST : 0, i == 2 ? LEAST : 0);
                S.due("cost(0, 8)", 5, x.cost(0, 8));
                x.log(1, i == 0 ? 0 : 1, i == 1 ? 0 : 1, i == 2 ? 0 : 1);
                S.due("cost(0, 8)", 7, x.cost(0, 8));
                x.log(0, 0, 0, 0);
                S.due("cost(0, 8)", 8, x.cost(0, 8));
            }
        });
        S.holds("RUNS told: they are not run by that", () -> {
            WorthKeeping x = Checks.made(Checks.codes(508, 300));
            x.log(0, 0, 0, 0);
            S.due("told(6)", 1, x.told(6));
            S.due("held(0)", 0, x.held(0));
            S.due("ran(0)", -3, x.ran(0));
        });
    }

    private static void theCost() {
        S.holds("THE COST: with an empty LOG", () -> {
            WorthKeeping x = Checks.made(Checks.codes(1));
            for (int room : new int[] {0, 1, 8, 32}) {
                S.due("cost(1, " + room + ")", 0, x.cost(1, room));
                S.due("cost(0, " + room + ")", 0, x.cost(0, room));
            }
            S.due("cost without a ROUTINE", 0, new WorthKeeping().cost(-1, 32));
        });
        S.holds("of some ROUTINES (as bits)", () -> {
            int[][] all = new int[10][];
            int[] log = new int[20];
            int once = 0;
            for (int r = 0; r < 10; r++) {
                all[r] = Checks.times(r + 1, 1);
                log[2 * r] = r;
                log[2 * r + 1] = r;
                once += r + 1;
            }
            WorthKeeping x = logged(log, all);
            S.due("cost(0, 32)", 2 * once, x.cost(0, 32));
            S.due("cost(1023, 32)", once, x.cost(1023, 32));
            for (int r = 0; r < 10; r++) {
                S.due("cost of " + r, 2 * once - (r + 1), x.cost(1 << r, 32));
                S.due("cost of all but " + r, once + r + 1, x.cost(1023 & ~(1 << r), 32));
            }
        });
        S.holds("REAL STEPS of all RUNS of THE LOG", () -> {
            // up to 20 runs of 2000 steps
            WorthKeeping x = Checks.afterSteps(1999, Checks.codes(1));
            for (int i = 1; i <= 20; i++) {
                x.log(0, i, i, i);
                S.due("cost(0, 8)", 2000 * i, x.cost(0, 8));
                S.due("cost(1, 8)", 2000, x.cost(1, 8));
            }
            // refused ones have steps as well
            WorthKeeping y = logged(new int[] {0, 1, 0, 1}, Checks.codes(1, 0, 503), Checks.codes(1, 2, 3, 409));
            S.due("cost(0, 8)", 14, y.cost(0, 8));
            S.due("cost(3, 8)", 7, y.cost(3, 8));
        });
        S.holds("one behind the other", () -> {
            // 0 counts store 0 on, and 1 reads it: what 0 did to it is there for 1
            WorthKeeping x = logged(new int[] {1, 0, 1, 1, 0, 1}, Checks.codes(200, 1, 500, 300), Checks.codes(200, 603, 1, 1, 1));
            S.due("cost(0, 8)", 2 + 4 + 5 + 5 + 4 + 5, x.cost(0, 8));
            S.due("cost(2, 8)", 2 + 4 + 5 + 0 + 4 + 5, x.cost(2, 8));
            WorthKeeping y = logged(new int[] {0, 0, 0}, Checks.codes(508, 603, 1, 1, 1));
            y.lot(0);
            S.due("cost(0, 8), LOTS 0 and then others", 2 + 5 + 5, y.cost(0, 8));
        });
        S.holds("with nothing KEPT at first", () -> {
            WorthKeeping x = logged(new int[] {0, 0}, Checks.codes(1, 2, 3));
            x.keep(0, true);
            x.run(0, 0, 0, 0);
            S.due("told(1)", 1, x.told(1));
            S.due("cost(1, 8)", 3, x.cost(1, 8));
            S.due("cost(1, 8), again", 3, x.cost(1, 8));
        });
        S.holds("STORES and THE LOT as they are now", () -> {
            for (int s = 0; s < 16; s++) {
                WorthKeeping x = logged(new int[] {0}, Checks.codes(200 + s, 603, 1, 1, 1));
                S.due("cost(0, 8)", 2, x.cost(0, 8));
                x.store(s, LEAST);
                S.due("cost(0, 8)", 5, x.cost(0, 8));
                x.store(s, 0);
                S.due("cost(0, 8)", 2, x.cost(0, 8));
            }
            WorthKeeping y = logged(new int[] {0}, Checks.codes(508, 603, 1, 1, 1));
            S.due("cost(0, 8), LOT 1", 5, y.cost(0, 8));
            y.lot(0);
            S.due("cost(0, 8), LOT 0", 2, y.cost(0, 8));
        });
        S.holds("these ROUTINES (those that may be) kept", () -> {
            WorthKeeping x = logged(new int[] {0, 0, 1, 1, 2, 2, 3, 3}, Checks.codes(1, 300), Checks.codes(508, 1, 1),
                    Checks.codes(1, 2, 3, 400), Checks.codes(1, 1, 1, 1, 1, 1, 1));
            S.due("cost(0, 8)", 2 * (2 + 3 + 6 + 7), x.cost(0, 8));
            for (int bits : new int[] {1, 2, 4, 7}) {
                S.due("cost(" + bits + ", 8)", 36, x.cost(bits, 8));
            }
            S.due("cost(15, 8)", 29, x.cost(15, 8));
            // told to be kept or not
            x.keep(3, true);
            S.due("cost(0, 8), told", 36, x.cost(0, 8));
            x.keep(3, false);
            S.due("cost(8, 8), not told", 29, x.cost(8, 8));
        });
        S.holds("and a ROOM; RULE as told", TermsOfWorthTest::roomAndRule);
    }

    private static void roomAndRule() {
        // 2, 6 and 11 steps for numbers 0, 1 and others
        int[] longer = {100, 609, 100, 1, 501, 605, 1, 506, 1, 506, 5};
        WorthKeeping x = Checks.made(longer);
        for (int a : new int[] {9, 1, 0, 9, 3, 9, 1, 0}) {
            x.log(0, a, 0, 0);
        }
        int[][] want = {
            // room 0 to 4 by rule 0, 1 and 2
            {60, 60, 11 + 6 + 2 + 11 + 11 + 0 + 6 + 2, 11 + 6 + 2 + 0 + 11 + 0 + 6 + 2, 30},
            {60, 60, 11 + 6 + 2 + 11 + 11 + 0 + 6 + 2, 11 + 6 + 2 + 0 + 11 + 11 + 6 + 2, 30},
            {60, 60, 11 + 6 + 2 + 0 + 11 + 0 + 6 + 2, 11 + 6 + 2 + 0 + 11 + 0 + 0 + 2, 30}};
        for (int rule = 0; rule < 3; rule++) {
            for (int ownRoom : new int[] {0, 1, 32}) {
                x.room(ownRoom, rule);
                for (int room = 0; room < 5; room++) {
                    S.due("cost(1, " + room + ") by rule " + rule, want[rule][room], x.cost(1, room));
                }
                S.due("cost(1, 32) by rule " + rule, 30, x.cost(1, 32));
                S.due("told(2)", ownRoom, x.told(2));
            }
        }
    }

    private static void theBest() {
        S.holds("THE BEST: with an empty LOG", () -> {
            S.due("best(8) without a ROUTINE", 0, new WorthKeeping().best(8));
            WorthKeeping x = Checks.made(Checks.codes(1), Checks.codes(2));
            for (int room : new int[] {0, 1, 8, 32}) {
                S.due("best(" + room + ")", 0, x.best(room));
            }
        });
        S.holds("THE BEST are those with the least COST", () -> {
            WorthKeeping x = logged(new int[] {1, 0, 1, 0}, Checks.codes(1, 1), Checks.codes(1, 1, 1));
            S.due("best(8)", 3, x.best(8));
            S.due("best(1)", 2, x.best(1));
            S.due("best(0)", 0, x.best(0));
            // keeping more may cost more
            S.due("cost(2, 1)", 7, x.cost(2, 1));
            S.due("cost(3, 1)", 10, x.cost(3, 1));
        });
        S.holds("of several the fewest ROUTINES", () -> {
            // room for one: 2 alone saves 3 steps, 0 and 1 together as many, all of them as many
            WorthKeeping x = logged(new int[] {2, 0, 0, 1, 1, 2}, Checks.codes(1), Checks.codes(1, 1), Checks.codes(1, 1, 1));
            S.due("cost(4, 1)", 9, x.cost(4, 1));
            S.due("cost(3, 1)", 9, x.cost(3, 1));
            S.due("cost(7, 1)", 9, x.cost(7, 1));
            S.due("best(1)", 4, x.best(1));
            // none is met twice: nothing is worth it
            S.due("best(8)", 0, logged(new int[] {0, 1}, Checks.codes(1), Checks.codes(1)).best(8));
            // met twice, but without a step
            S.due("best(8)", 0, logged(new int[] {0, 0}, Checks.codes()).best(8));
        });
        S.holds("of these the least number", () -> {
            int[][] ones = {Checks.codes(1), Checks.codes(1), Checks.codes(1), Checks.codes(1)};
            WorthKeeping x = logged(new int[] {0, 1, 2, 2, 0, 3, 3, 2, 1, 1, 3}, ones);
            S.due("cost(6, 1)", 8, x.cost(6, 1));
            S.due("cost(9, 1)", 8, x.cost(9, 1));
            S.due("best(1)", 6, x.best(1));
            WorthKeeping y = logged(new int[] {3, 1, 3, 1}, ones);
            S.due("cost(2, 1)", 3, y.cost(2, 1));
            S.due("cost(8, 1)", 3, y.cost(8, 1));
            S.due("best(1)", 2, y.best(1));
        });
    }
}
