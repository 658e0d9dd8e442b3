import java.util.ArrayList;
import java.util.List;
import java.util.Random;

/** Programs drawn by lot (always the same for the same seed), such as mostly do something. */
final class Drawn {
    private Drawn() {
    }

    /** Goes down by its number 1, up to three times a level, and does something on the way. */
    private static List<Integer> goingDown(Random lots, int self, boolean pure) {
        List<Integer> inner = new ArrayList<>();
        int times = 1 + lots.nextInt(3);
        for (int i = 0; i < times; i++) {
            inner.addAll(List.of(lots.nextInt(4) == 0 ? 102 : 100, 101, 1 + lots.nextInt(2), 501,
                    lots.nextInt(3) == 0 ? 200 + lots.nextInt(3) : 102, 400 + self));
        }
        inner.add(lots.nextBoolean() ? 100 : 200 + lots.nextInt(3));
        inner.add(500 + lots.nextInt(pure ? 5 : 9));
        List<Integer> codes = new ArrayList<>(List.of(0, 101, 504));
        codes.add(600 + Math.min(20, inner.size()));
        codes.addAll(inner);
        if (lots.nextInt(3) == 0) {
            codes.addAll(List.of(102, 101, 507, 400 + lots.nextInt(10)));
        }
        return codes;
    }

    /** Code after code of those for which the row has enough, mostly. */
    private static List<Integer> oneByOne(Random lots, boolean pure) {
        List<Integer> codes = new ArrayList<>();
        boolean filling = lots.nextInt(8) == 0;
        int length = lots.nextInt(filling || lots.nextInt(4) == 0 ? 41 : 16);
        int row = 0;
        while (codes.size() < length) {
            int kind = filling && lots.nextInt(8) != 0 ? 0 : lots.nextInt(12);
            if (lots.nextInt(40) == 0) {
                codes.add(anyCode(lots));
            } else if (kind >= 10 && row >= 3) {
                codes.add(400 + lots.nextInt(lots.nextInt(4) == 0 ? 10 : 5));
                row -= 2;
            } else if (kind >= 7 && row >= 2) {
                codes.add(500 + lots.nextInt(6));
                row--;
            } else if (kind == 6 && row >= 1) {
                codes.add(600 + 1 + lots.nextInt(4));
                row--;
            } else if (kind == 5 && row >= 1) {
                codes.add(!pure && lots.nextBoolean() ? 300 + lots.nextInt(3) : 506);
                row--;
            } else {
                codes.add(brings(lots, row, pure));
                row++;
            }
        }
        return codes;
    }

    private static int brings(Random lots, int row, boolean pure) {
        switch (lots.nextInt(7)) {
            case 0: return lots.nextInt(4);
            case 1: return 200 + lots.nextInt(lots.nextInt(3) == 0 ? 16 : 3);
            case 2: return row > 0 ? 507 : 1;
            case 3: return pure ? 102 : 508;
            default: return 100 + lots.nextInt(3);
        }
    }

    static int anyCode(Random lots) {
        switch (lots.nextInt(8)) {
            case 0: return lots.nextInt(100);
            case 1: return 100 + lots.nextInt(3);
            case 2: return 200 + lots.nextInt(16);
            case 3: return 300 + lots.nextInt(16);
            case 4: return 400 + lots.nextInt(10);
            case 5: return 500 + lots.nextInt(9);
            case 6: return 601 + lots.nextInt(20);
            default: return lots.nextInt(100);
        }
    }

    static List<List<Integer>> program(Random lots) {
        List<List<Integer>> all = new ArrayList<>();
        int routines = 1 + lots.nextInt(lots.nextInt(4) == 0 ? 10 : 5);
        for (int r = 0; r < routines; r++) {
            boolean pure = lots.nextInt(5) != 0;
            List<Integer> codes = lots.nextInt(3) == 0 ? goingDown(lots, r, pure) : oneByOne(lots, pure);
            all.add(codes.size() > 40 ? new ArrayList<>(codes.subList(0, 40)) : codes);
        }
        return all;
    }

    /** Small mostly, so that calls are met again. */
    static int number(Random lots) {
        switch (lots.nextInt(24)) {
            case 0: return lots.nextInt();
            case 1: return Integer.MIN_VALUE;
            case 2: return Integer.MAX_VALUE;
            case 3: return 5 + lots.nextInt(10);
            default: return lots.nextInt(5) - 1;
        }
    }

    /** One of those that are there mostly, but also the first beyond, and far ones. */
    static int index(Random lots, int beyond) {
        switch (lots.nextInt(30)) {
            case 0: return -1;
            case 1: return beyond;
            case 2: return lots.nextInt();
            default: return lots.nextInt(Math.max(1, beyond));
        }
    }
}
