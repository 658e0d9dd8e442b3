/** Promises 17 to 21: the log, its cost, the best ones to keep, and what is told. */
public final class WorthTest {
    private static final int LEAST = Integer.MIN_VALUE;
    private static final int MOST = Integer.MAX_VALUE;
    private static final Checks CHECKS = new Checks();

    public static void main(String[] args) {
        theLog();
        numbersOfRuns();
        costOfRuns();
        costWithRefusedRuns();
        costOverStoresAndLots();
        costByRules();
        costLeavesAllAsItIs();
        bestIsTheCheapest();
        bestOfSeveral();
        bestOfTheFirstFive();
        wrongRooms();
        whatIsTold();
        CHECKS.end();
    }

    private static void due(String call, long want, long got) {
        CHECKS.due(call, want, got);
    }

    private static void theLog() {
        WorthKeeping x = Checks.made(Checks.codes(100));
        for (int r : new int[] {LEAST, -1, 1, 10, MOST}) {
            due("log of " + r, -1, x.log(r, 0, 0, 0));
        }
        for (int i = 1; i <= 20; i++) {
            due("log " + i, i, x.log(0, i, LEAST, MOST));
        }
        due("the 21st", -4, x.log(0, 1, 1, 1));
        due("no routine, and full", -1, x.log(1, 1, 1, 1));
        due("told of the log", 20, x.told(4));
        due("cost of it", 20, x.cost(0, 8));
        due("clear", 20, x.clear());
        due("told of the log", 0, x.told(4));
        due("clear again", 0, x.clear());
        due("log anew", 1, x.log(0, 1, 1, 1));
        due("cost of it", 1, x.cost(0, 8));
        x.routine();
        x.code(0, 1);
        due("routines do not end the log", 1, x.told(4));
        due("cost of the routine as it is now", 2, x.cost(0, 8));
    }

    private static void numbersOfRuns() {
        for (int i = 0; i < 3; i++) {
            WorthKeeping x = Checks.made(Checks.codes(100 + i, 603, 1, 1, 1));
            x.log(0, i == 0 ? 1 : 0, i == 1 ? 1 : 0, i == 2 ? 1 : 0);
            due("number " + i, 5, x.cost(0, 8));
            x.clear();
            x.log(0, i == 0 ? 0 : 1, i == 1 ? 0 : 1, i == 2 ? 0 : 1);
            due("number " + i, 2, x.cost(0, 8));
        }
    }

    private static void costOfRuns() {
        // 0: 3 steps of number 0; 1: 4 steps and those of 0
        WorthKeeping x = Checks.made(Checks.codes(100, 507, 502), Checks.codes(101, 1, 1, 400));
        x.log(0, 5, 0, 0);
        x.log(1, 5, 5, 0);
        x.log(1, 6, 5, 0);
        x.log(1, 6, 6, 0);
        int[] want = {24, 18, 17, 14};
        for (int bits = 0; bits < 4; bits++) {
            due("cost(" + bits + ", 8)", want[bits], x.cost(bits, 8));
            due("bits of others do not matter", want[bits], x.cost(bits | -4, 8));
            due("no room", 24, x.cost(bits, 0));
        }
        due("room for two", 14, x.cost(3, 2));
        due("room for one", 14, x.cost(3, 1));
        due("all of them", 14, x.cost(-1, 32));
        due("none of them", 24, x.cost(LEAST, 32));
        x.keep(0, true);
        due("what is told to be kept does not matter", 24, x.cost(0, 8));
        x.run(0, 5, 0, 0);
        due("what is kept does not matter", 18, x.cost(1, 8));
        due("the kept one goes", 1, x.room(0, 0));
        due("the room that is told does not matter", 14, x.cost(3, 8));
    }

    private static void costWithRefusedRuns() {
        WorthKeeping x = Checks.made(Checks.codes(100, 101, 503), Checks.codes(7, 1, 501, 508),
                Checks.times(10, 1, 1, 1, 403), Checks.times(8, 1, 1, 1, 404), Checks.codes(1, 1, 1, 1));
        x.log(0, 1, 0, 0);
        x.log(0, 2, 0, 0);
        x.log(0, 1, 0, 0);
        due("refused ones cost, too", 9, x.cost(0, 8));
        due("refused ones are kept", 6, x.cost(1, 8));
        x.clear();
        x.log(2, 0, 0, 0);
        x.log(2, 0, 0, 0);
        due("each has steps of its own", 2 * (40 + 10 * 64), x.cost(0, 8));
        due("kept", 40 + 32 + 4, x.cost(28, 8));
        due("those that draw are not kept", 2 * (40 + 10 * 64), x.cost(2, 8));
    }

    private static void costOverStoresAndLots() {
        // 0 counts store 0 on; 1 is kept and reads it; 2 draws a lot and goes by its being 0
        WorthKeeping x = Checks.made(Checks.codes(200, 1, 500, 300), Checks.codes(200, 507, 502),
                Checks.codes(508, 603, 1, 1, 1));
        x.log(1, 0, 0, 0);
        x.log(1, 0, 0, 0);
        x.log(0, 0, 0, 0);
        x.log(1, 0, 0, 0);
        due("a store changes between the runs", 3 + 0 + 4 + 3, x.cost(2, 8));
        due("those that act are not kept", 3 + 3 + 4 + 3, x.cost(1, 8));
        due("the store is as it was", 0, x.held(0));
        for (int s = 0; s < 16; s++) {
            WorthKeeping y = Checks.made(Checks.codes(200 + s, 603, 1, 1, 1));
            y.log(0, 0, 0, 0);
            due("store " + s + " at first", 2, y.cost(0, 8));
            y.store(s, 1);
            due("store " + s + " as it is now", 5, y.cost(0, 8));
        }
        x.clear();
        x.log(2, 0, 0, 0);
        x.log(2, 0, 0, 0);
        x.lot(0);
        due("lots as they are now: 0 comes, then 1", 2 + 5, x.cost(0, 8));
        due("the lot is as it was", 0, x.told(6));
        x.lot(1);
        due("lots as they are now: 1 comes, then some", 5 + 5, x.cost(0, 8));
    }

    private static void costByRules() {
        // number 0 less than 1: 6 steps, 2: 10 steps, else 13 steps
        int[] longer = {100, 1, 504, 602, 0, 620, 100, 2, 505, 602, 0, 620, 1, 1, 1, 1, 1};
        WorthKeeping x = Checks.made(longer);
        int[] row = {9, 2, 0, 9, 3, 9, 2, 0};
        for (int a : row) {
            x.log(0, a, 0, 0);
        }
        due("told ahead", 0, x.room(8, 0));
        // 9 2 0 | hit 9 | 3: 2 goes | hit 9 | 2: 0 goes | 0: 3 goes
        due("rule 0", 13 + 10 + 6 + 0 + 13 + 0 + 10 + 6, x.cost(1, 3));
        x.room(8, 1);
        // 9 2 0 | hit 9 | 3: 9 goes | 9: 2 goes | 2: 0 goes | 0: 3 goes
        due("rule 1", 13 + 10 + 6 + 0 + 13 + 13 + 10 + 6, x.cost(1, 3));
        x.room(8, 2);
        // 9 2 0 | hit 9 | 3: 0 goes | hit 9 | hit 2 | 0: 2 goes
        due("rule 2", 13 + 10 + 6 + 0 + 13 + 0 + 0 + 6, x.cost(1, 3));
    }

    private static void costLeavesAllAsItIs() {
        WorthKeeping x = Checks.made(Checks.codes(100, 200, 500), Checks.codes(508, 300, 1, 315));
        x.keep(0, true);
        x.room(2, 1);
        x.store(0, 4);
        x.run(0, 5, 0, 0);
        x.run(0, 6, 0, 0);
        x.run(0, 6, 0, 0);
        x.log(1, 0, 0, 0);
        x.log(0, 8, 0, 0);
        x.log(0, 9, 0, 0);
        x.log(0, 10, 0, 0);
        due("cost", 13, x.cost(3, 32));
        due("best", 0, x.best(31));
        int[] told = {2, 2, 2, 1, 4, 1, 1};
        for (int what = 0; what < told.length; what++) {
            due("told(" + what + ")", told[what], x.told(what));
        }
        due("answer", 10, x.answer());
        int[] ran = {3, 0, 1, 0, 1};
        for (int what = 0; what < ran.length; what++) {
            due("ran(" + what + ")", ran[what], x.ran(what));
        }
        due("store 0", 4, x.held(0));
        due("store 15", 0, x.held(15));
        due("kept", 5, x.kept(0, 10));
        due("kept", 6, x.kept(1, 10));
        due("hits", 1, x.kept(1, 7));
    }

    private static void bestIsTheCheapest() {
        // with room for one, keeping both is worse than keeping 1 alone
        WorthKeeping x = Checks.made(Checks.codes(100, 100, 500), Checks.codes(100, 1, 1, 400, 1, 1, 1));
        x.log(1, 5, 0, 0);
        x.log(0, 6, 0, 0);
        x.log(1, 5, 0, 0);
        due("0 alone, room 1", 23, x.cost(1, 1));
        due("1 alone, room 1", 13, x.cost(2, 1));
        due("both, room 1", 23, x.cost(3, 1));
        due("best, room 1", 2, x.best(1));
        due("both, room 8", 13, x.cost(3, 8));
        due("best, room 8", 2, x.best(8));
        x.log(0, 6, 0, 0);
        due("best, room 8", 3, x.best(8));
        due("best, room 0", 0, x.best(0));
        x.clear();
        due("best of no runs", 0, x.best(8));
    }

    private static void bestOfSeveral() {
        // 2 calls 1, and 3 calls 0
        WorthKeeping x = Checks.made(Checks.codes(100), Checks.codes(100), Checks.codes(100, 1, 1, 401),
                Checks.codes(100, 1, 1, 400));
        x.log(0, 1, 0, 0);
        x.log(0, 1, 0, 0);
        x.log(1, 1, 0, 0);
        x.log(1, 1, 0, 0);
        due("both are worth it", 3, x.best(8));
        due("both are, one behind the other, with room for one", 3, x.best(1));
        x.clear();
        x.log(2, 1, 0, 0);
        x.log(3, 1, 0, 0);
        x.log(2, 1, 0, 0);
        x.log(3, 1, 0, 0);
        due("callers are worth it", 12, x.best(8));
        x.clear();
        // keeping 2 saves its 5 steps, and keeping 1 as well saves no more
        x.log(2, 1, 0, 0);
        x.log(2, 1, 0, 0);
        due("as cheap together", x.cost(4, 8), x.cost(6, 8));
        due("the fewest", 4, x.best(8));
        x.clear();
        // with room for one, either of two is worth as much, and both together nothing
        WorthKeeping y = Checks.made(Checks.codes(), Checks.codes(5), Checks.codes(6));
        y.log(1, 0, 0, 0);
        y.log(2, 0, 0, 0);
        y.log(1, 0, 0, 0);
        y.log(2, 0, 0, 0);
        due("room for one: 1 alone", 3, y.cost(2, 1));
        due("room for one: 2 alone", 3, y.cost(4, 1));
        due("room for one: both", 4, y.cost(6, 1));
        due("of these the least number", 2, y.best(1));
    }

    private static void bestOfTheFirstFive() {
        WorthKeeping x = new WorthKeeping();
        for (int i = 0; i < 10; i++) {
            x.routine();
        }
        x.code(1, 508);
        x.code(3, 508);
        x.code(3, 300);
        for (int i = 0; i < 10; i++) {
            x.code(i, 1);
            x.log(i, 0, 0, 0);
            x.log(i, 0, 0, 0);
        }
        // 0, 2, 4, 5, 6 may be kept and are the first; 7, 8 and 9 come too late
        due("the first five", 1 | 4 | 16 | 32 | 64, x.best(32));
        due("the cost of more is less", x.cost(1 | 4 | 16 | 32 | 64, 32) - 3, x.cost(-1, 32));
        due("room for two", x.best(32), x.best(2));
        x.code(9, 1);
        x.code(0, 300);
        due("0 acts now", 4 | 16 | 32 | 64 | 128, x.best(32));
    }

    private static void wrongRooms() {
        WorthKeeping x = Checks.made(Checks.codes(1));
        for (int room : new int[] {LEAST, -1, 33, MOST}) {
            due("cost(1, " + room + ")", -2, x.cost(1, room));
            due("best(" + room + ")", -2, x.best(room));
        }
        due("cost(1, 32)", 0, x.cost(1, 32));
        due("best(32)", 0, x.best(32));
    }

    private static void whatIsTold() {
        WorthKeeping x = Checks.made(Checks.codes(100), Checks.codes(101), Checks.codes(102));
        x.keep(2, true);
        x.keep(0, true);
        x.room(5, 2);
        x.run(0, 1, 1, 1);
        x.run(2, 1, 1, 1);
        x.run(1, 1, 1, 1);
        x.log(1, 1, 1, 1);
        x.lot(LEAST);
        int[] want = {3, 2, 5, 2, 1, 5, LEAST};
        for (int what = 0; what < want.length; what++) {
            due("told(" + what + ")", want[what], x.told(what));
        }
        for (int what : new int[] {LEAST, -1, 7, 8, MOST}) {
            due("told(" + what + ")", -2, x.told(what));
        }
    }
}
