import java.util.ArrayList;
import java.util.Comparator;
import java.util.List;
import java.util.Map;
import java.util.TreeMap;
import java.util.TreeSet;

/**
 * The document once more, as plainly as the Java library allows: lists, maps and new objects for
 * everything. It shares no code with WorthKeeping, and is what PlainModelTest holds it against.
 */
final class PlainModel {
    private static final class Refused extends Exception {
        private static final long serialVersionUID = 1L;
        final int by;
        final boolean mayBeKept;

        Refused(int by, boolean mayBeKept) {
            super(null, null, false, false);
            this.by = by;
            this.mayBeKept = mayBeKept;
        }
    }

    private static final class One {
        int routine;
        Map<Integer, Integer> numbers = new TreeMap<>();
        Map<Integer, Integer> stores = new TreeMap<>();
        int answer;
        int refusal;
        int steps;
        int within;
        int hits;
        long used;
    }

    /** What a call has read and how deep it went. */
    private static final class Trace {
        Map<Integer, Integer> numbers = new TreeMap<>();
        Map<Integer, Integer> stores = new TreeMap<>();
        int within;
    }

    private static final class State {
        int[] stores = new int[16];
        int lot = 1;
        List<One> kept = new ArrayList<>();
        int room = 8;
        int rule = 0;
        TreeSet<Integer> keeping = new TreeSet<>();
        long clock = 0;
    }

    private static final class Tally {
        int refusal;
        int answer;
        int[] counts = new int[5];
    }

    private final List<List<Integer>> routines = new ArrayList<>();
    private final List<int[]> log = new ArrayList<>();
    private State state = new State();
    private Tally latest = null;

    // ---- what routines may do

    private TreeSet<Integer> reached(int from) {
        TreeSet<Integer> all = new TreeSet<>();
        List<Integer> open = new ArrayList<>(List.of(from));
        while (!open.isEmpty()) {
            int r = open.remove(open.size() - 1);
            if (all.add(r)) {
                for (int c : routines.get(r)) {
                    if (c >= 400 && c < 500 && c - 400 < routines.size()) {
                        open.add(c - 400);
                    }
                }
            }
        }
        return all;
    }

    private int mayDo(int routine) {
        int bits = 0;
        for (int r : reached(routine)) {
            for (int c : routines.get(r)) {
                bits |= c >= 300 && c < 400 ? 1 : c == 508 ? 2 : 0;
            }
        }
        return bits;
    }

    private boolean isThere(int routine) {
        return routine >= 0 && routine < routines.size();
    }

    // ---- runs

    private final class Run {
        final State on;
        final Tally tally = new Tally();

        Run(State on) {
            this.on = on;
        }

        Tally go(int routine, int... numbers) {
            Trace trace = new Trace();
            try {
                tally.answer = called(routine, numbers, 1, trace);
            } catch (Refused r) {
                tally.refusal = r.by;
            }
            tally.counts[4] = trace.within + 1;
            return tally;
        }

        int called(int routine, int[] numbers, int depth, Trace trace) throws Refused {
            if (!on.keeping.contains(routine)) {
                return done(routine, numbers, depth, trace);
            }
            for (One one : on.kept) {
                if (!holds(one, routine, numbers)) {
                    continue;
                }
                if (tally.counts[0] + one.steps > 2000 || depth + one.within > 12) {
                    break;
                }
                return hit(one, trace);
            }
            tally.counts[3]++;
            int before = tally.counts[0];
            One one = new One();
            one.routine = routine;
            try {
                one.answer = done(routine, numbers, depth, trace);
            } catch (Refused r) {
                one.refusal = r.by;
                if (r.mayBeKept) {
                    added(one, trace, before);
                }
                throw r;
            }
            added(one, trace, before);
            return one.answer;
        }

        boolean holds(One one, int routine, int[] numbers) {
            return one.routine == routine
                    && one.numbers.entrySet().stream().allMatch(e -> numbers[e.getKey()] == e.getValue())
                    && one.stores.entrySet().stream().allMatch(e -> on.stores[e.getKey()] == e.getValue());
        }

        int hit(One one, Trace trace) throws Refused {
            tally.counts[2]++;
            tally.counts[0] += one.steps;
            one.hits++;
            one.used = ++on.clock;
            trace.stores.putAll(one.stores);
            trace.within = one.within;
            if (one.refusal != 0) {
                throw new Refused(one.refusal, true);
            }
            return one.answer;
        }

        void added(One one, Trace trace, int before) {
            if (on.room == 0) {
                return;
            }
            one.numbers = trace.numbers;
            one.stores = new TreeMap<>(trace.stores);
            one.within = trace.within;
            one.steps = tally.counts[0] - before;
            one.used = ++on.clock;
            if (on.kept.size() == on.room) {
                One goes = on.kept.get(0);
                for (One other : on.kept) {
                    if (on.rule == 0 && other.used < goes.used || on.rule == 2 && other.steps < goes.steps) {
                        goes = other;
                    }
                }
                on.kept.remove(goes);
            }
            on.kept.add(one);
        }

        int done(int routine, int[] numbers, int depth, Trace trace) throws Refused {
            List<Integer> codes = routines.get(routine);
            List<Integer> row = new ArrayList<>();
            int at = 0;
            while (at < codes.size()) {
                if (tally.counts[0] == 2000) {
                    throw new Refused(5, false);
                }
                tally.counts[0]++;
                tally.counts[1]++;
                int c = codes.get(at);
                at++;
                if (c > 600) {
                    need(row, 1);
                    at += pop(row) == 0 ? c - 600 : 0;
                } else if (c >= 500) {
                    operate(c - 500, row);
                } else if (c >= 400) {
                    call(c - 400, row, depth, trace);
                } else if (c >= 300) {
                    need(row, 1);
                    on.stores[c - 300] = pop(row);
                } else if (c >= 200) {
                    place(row);
                    trace.stores.put(c - 200, on.stores[c - 200]);
                    row.add(on.stores[c - 200]);
                } else if (c >= 100) {
                    place(row);
                    trace.numbers.put(c - 100, numbers[c - 100]);
                    row.add(numbers[c - 100]);
                } else {
                    place(row);
                    row.add(c);
                }
            }
            return row.isEmpty() ? 0 : row.get(row.size() - 1);
        }

        void call(int r, List<Integer> row, int depth, Trace trace) throws Refused {
            need(row, 3);
            if (r >= routines.size()) {
                throw new Refused(4, true);
            }
            if (depth == 12) {
                throw new Refused(4, false);
            }
            int third = pop(row);
            int second = pop(row);
            int first = pop(row);
            Trace inner = new Trace();
            try {
                row.add(called(r, new int[] {first, second, third}, depth + 1, inner));
            } catch (Refused refused) {
                join(trace, inner);
                throw refused;
            }
            join(trace, inner);
        }

        void join(Trace outer, Trace inner) {
            outer.stores.putAll(inner.stores);
            outer.within = Math.max(outer.within, inner.within + 1);
        }

        void operate(int o, List<Integer> row) throws Refused {
            if (o == 8) {
                place(row);
                on.lot = on.lot * 69069 + 1;
                row.add(on.lot >>> 16);
                return;
            }
            need(row, o < 6 ? 2 : 1);
            if (o == 7) {
                place(row);
                row.add(row.get(row.size() - 1));
                return;
            }
            int last = pop(row);
            if (o == 6) {
                return;
            }
            if (o == 3 && last == 0) {
                throw new Refused(3, true);
            }
            int ahead = pop(row);
            row.add(o == 0 ? ahead + last : o == 1 ? ahead - last : o == 2 ? ahead * last
                    : o == 3 ? (int) ((long) ahead / last) : o == 4 ? (ahead < last ? 1 : 0) : ahead == last ? 1 : 0);
        }

        void need(List<Integer> row, int n) throws Refused {
            if (row.size() < n) {
                throw new Refused(1, true);
            }
        }

        void place(List<Integer> row) throws Refused {
            if (row.size() == 20) {
                throw new Refused(2, true);
            }
        }

        int pop(List<Integer> row) {
            return row.remove(row.size() - 1);
        }
    }

    // ---- the face

    int routine() {
        if (routines.size() == 10) {
            return -4;
        }
        routines.add(new ArrayList<>());
        state.kept.clear();
        return routines.size() - 1;
    }

    private static boolean isCode(int c) {
        return c >= 0 && c <= 102 || c >= 200 && c <= 215 || c >= 300 && c <= 315 || c >= 400 && c <= 409
                || c >= 500 && c <= 508 || c >= 601 && c <= 620;
    }

    int code(int routine, int c) {
        if (!isThere(routine)) {
            return -1;
        }
        if (!isCode(c)) {
            return -2;
        }
        if (routines.get(routine).size() == 40) {
            return -4;
        }
        routines.get(routine).add(c);
        state.kept.clear();
        state.keeping.removeIf(r -> mayDo(r) != 0);
        return routines.get(routine).size();
    }

    int codeAt(int routine, int i) {
        if (!isThere(routine)) {
            return -1;
        }
        List<Integer> codes = routines.get(routine);
        return i < 0 || i >= codes.size() ? -6 : codes.get(i);
    }

    int store(int s, int v) {
        if (s < 0 || s > 15) {
            return 0;
        }
        int before = state.stores[s];
        state.stores[s] = v;
        return before;
    }

    int held(int s) {
        return s < 0 || s > 15 ? 0 : state.stores[s];
    }

    int lot(int v) {
        int before = state.lot;
        state.lot = v;
        return before;
    }

    int acting(int routine) {
        return isThere(routine) ? mayDo(routine) : -1;
    }

    int reads(int routine) {
        if (!isThere(routine)) {
            return -1;
        }
        int bits = 0;
        for (int r : reached(routine)) {
            for (int c : routines.get(r)) {
                bits |= c >= 200 && c < 300 ? 1 << (c - 200) : 0;
            }
        }
        return bits;
    }

    int run(int routine, int a, int b, int c) {
        if (!isThere(routine)) {
            return -1;
        }
        latest = new Run(state).go(routine, a, b, c);
        return latest.refusal;
    }

    int answer() {
        return latest == null ? 0 : latest.answer;
    }

    int ran(int what) {
        return what < 0 || what > 4 ? -2 : latest == null ? -3 : latest.counts[what];
    }

    int keep(int routine, boolean is) {
        if (!isThere(routine)) {
            return -1;
        }
        if (mayDo(routine) != 0) {
            return -5;
        }
        int before = state.keeping.contains(routine) ? 1 : 0;
        if (is) {
            state.keeping.add(routine);
        } else {
            state.keeping.remove(routine);
            state.kept.removeIf(one -> one.routine == routine);
        }
        return before;
    }

    int room(int room, int rule) {
        if (room < 0 || room > 32 || rule < 0 || rule > 2) {
            return -2;
        }
        state.room = room;
        state.rule = rule;
        int went = 0;
        while (state.kept.size() > room) {
            state.kept.remove(0);
            went++;
        }
        return went;
    }

    int forget() {
        int before = state.kept.size();
        state.kept.clear();
        return before;
    }

    private static int bits(Map<Integer, Integer> read) {
        return read.keySet().stream().mapToInt(i -> 1 << i).sum();
    }

    int kept(int i, int what) {
        if (i < 0 || i >= state.kept.size()) {
            return -1001;
        }
        One one = state.kept.get(i);
        if (what >= 10 && what <= 12) {
            return one.numbers.getOrDefault(what - 10, 0);
        }
        if (what >= 20 && what <= 35) {
            return one.stores.getOrDefault(what - 20, 0);
        }
        if (what < 0 || what > 8) {
            return -1002;
        }
        boolean asTheyWere = one.stores.entrySet().stream().allMatch(e -> state.stores[e.getKey()] == e.getValue());
        return new int[] {one.routine, bits(one.numbers), bits(one.stores), one.answer, one.refusal, one.steps,
            one.within, one.hits, asTheyWere ? 1 : 0}[what];
    }

    int log(int routine, int a, int b, int c) {
        if (!isThere(routine)) {
            return -1;
        }
        if (log.size() == 20) {
            return -4;
        }
        log.add(new int[] {routine, a, b, c});
        return log.size();
    }

    int clear() {
        int before = log.size();
        log.clear();
        return before;
    }

    int cost(int bits, int room) {
        if (room < 0 || room > 32) {
            return -2;
        }
        State trial = new State();
        trial.stores = state.stores.clone();
        trial.lot = state.lot;
        trial.room = room;
        trial.rule = state.rule;
        for (int r = 0; r < routines.size(); r++) {
            if ((bits >> r & 1) == 1 && mayDo(r) == 0) {
                trial.keeping.add(r);
            }
        }
        int cost = 0;
        for (int[] one : log) {
            cost += new Run(trial).go(one[0], one[1], one[2], one[3]).counts[1];
        }
        return cost;
    }

    int best(int room) {
        if (room < 0 || room > 32) {
            return -2;
        }
        List<Integer> sets = new ArrayList<>(List.of(0));
        int taken = 0;
        for (int r = 0; r < routines.size() && taken < 5; r++) {
            if (mayDo(r) == 0) {
                taken++;
                for (int i = sets.size() - 1; i >= 0; i--) {
                    sets.add(sets.get(i) | 1 << r);
                }
            }
        }
        Map<Integer, Integer> costs = new TreeMap<>();
        for (int set : sets) {
            costs.put(set, cost(set, room));
        }
        sets.sort(Comparator.comparing((Integer set) -> costs.get(set))
                .thenComparing(set -> Integer.bitCount(set)).thenComparing(set -> set));
        return sets.get(0);
    }

    int told(int what) {
        switch (what) {
            case 0: return routines.size();
            case 1: return state.kept.size();
            case 2: return state.room;
            case 3: return state.rule;
            case 4: return log.size();
            case 5: return state.keeping.stream().mapToInt(r -> 1 << r).sum();
            case 6: return state.lot;
            default: return -2;
        }
    }
}
