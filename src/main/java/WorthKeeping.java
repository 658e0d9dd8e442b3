/**
 * Programs of small routines over stores, runs that keep the answers of routines that neither act
 * nor draw lots, and which routines are worth keeping for a row of runs.
 *
 * Everything an object ever needs is made with it: no call makes an object, so a long run of calls
 * needs no more memory than a short one.
 */
public final class WorthKeeping {
    public static final int NONE = -6, UNKNOWN = -1, OUTSIDE = -2, STATE = -3, FULL = -4, NO = -5;

    private static final int MOST_ROUTINES = 10;
    private static final int MOST_CODES = 40;
    private static final int MOST_CODE = 620;
    private static final int MOST_LEFT_OUT = 20;
    private static final int NUMBERS = 3;
    private static final int STORES = 16;
    private static final int MOST_IN_ROW = 20;
    private static final int MOST_CALLS = 12;
    private static final int MOST_STEPS = 2000;
    private static final int MOST_ROOM = 32;
    private static final int FIRST_ROOM = 8;
    private static final int MOST_RUNS = 20;
    private static final int MOST_CANDIDATES = 5;
    /** No log can cost more. */
    private static final int NO_LIMIT = MOST_RUNS * MOST_STEPS;

    /** The answers of kept() may be any small number, so its refusals lie further out. */
    private static final int KEPT_UNKNOWN = -1001;
    private static final int KEPT_OUTSIDE = -1002;

    /** The hundreds of the codes. */
    private static final int CONSTANT = 0;
    private static final int NUMBER = 1;
    private static final int LOAD = 2;
    private static final int SAVE = 3;
    private static final int CALL = 4;
    private static final int OPERATION = 5;
    private static final int LEAVE_OUT = 6;

    /** What follows 500 in an operation's code. */
    private static final int SUM = 0;
    private static final int DIFFERENCE = 1;
    private static final int PRODUCT = 2;
    private static final int QUOTIENT = 3;
    private static final int LESS = 4;
    private static final int TAKE_AWAY = 6;
    private static final int ONCE_MORE = 7;
    private static final int DRAW = 8;

    private static final int MAY_ACT = 1;
    private static final int MAY_DRAW = 2;

    /** How a call ends. */
    private static final int OVER = 0;
    private static final int TOO_FEW = 1;
    private static final int ROW_IS_FULL = 2;
    private static final int BY_ZERO = 3;
    private static final int NOT_THERE = 4;
    private static final int TOO_LONG = 5;
    /** Told as NOT_THERE in the end, but apart until then, since it depends on who calls. */
    private static final int TOO_DEEP = 6;

    private static final int RULE_OLDEST = 0;
    private static final int RULE_FEWEST_STEPS = 2;

    private final Program program;
    private final World world;
    private final Shelf shelf;
    private final Machine machine;
    private final World trialWorld;
    private final Shelf trialShelf;
    private final Machine trialMachine;
    private final RunLog runLog;
    private int toldToBeKept;
    private boolean hasRun;

    public WorthKeeping() {
        program = new Program();
        world = new World();
        shelf = new Shelf();
        machine = new Machine(program, world, shelf);
        trialWorld = new World();
        trialShelf = new Shelf();
        trialMachine = new Machine(program, trialWorld, trialShelf);
        runLog = new RunLog();
        toldToBeKept = 0;
        hasRun = false;
    }

    // ---- 1 programs

    public int routine() {
        if (program.isFull()) {
            return FULL;
        }
        shelf.dropAll();
        return program.addRoutine();
    }

    public int code(int routine, int c) {
        if (!program.hasRoutine(routine)) {
            return UNKNOWN;
        }
        if (!isCode(c)) {
            return OUTSIDE;
        }
        if (program.lengthOf(routine) >= MOST_CODES) {
            return FULL;
        }
        program.addCode(routine, c);
        shelf.dropAll();
        toldToBeKept &= program.keepable();
        return program.lengthOf(routine);
    }

    public int codeAt(int routine, int i) {
        if (!program.hasRoutine(routine)) {
            return UNKNOWN;
        }
        return program.codeOf(routine, i);
    }

    public int store(int s, int v) {
        int before = world.valueOf(s);
        world.setValue(s, v);
        return before;
    }

    public int held(int s) {
        return world.valueOf(s);
    }

    public int lot(int v) {
        int before = world.theLot;
        world.theLot = v;
        return before;
    }

    public int acting(int routine) {
        return program.hasRoutine(routine) ? program.actingOf(routine) : UNKNOWN;
    }

    public int reads(int routine) {
        return program.hasRoutine(routine) ? program.readingOf(routine) : UNKNOWN;
    }

    // ---- 2 runs

    public int run(int routine, int a, int b, int c) {
        if (!program.hasRoutine(routine)) {
            return UNKNOWN;
        }
        machine.start(routine, a, b, c, toldToBeKept);
        hasRun = true;
        return machine.refusal;
    }

    public int answer() {
        return machine.result;
    }

    public int ran(int what) {
        if (what < 0 || what > 4) {
            return OUTSIDE;
        }
        if (!hasRun) {
            return STATE;
        }
        switch (what) {
            case 0: return machine.steps;
            case 1: return machine.realSteps;
            case 2: return machine.hits;
            case 3: return machine.misses;
            default: return machine.deepest;
        }
    }

    public int keep(int routine, boolean is) {
        if (!program.hasRoutine(routine)) {
            return UNKNOWN;
        }
        if (program.actingOf(routine) != 0) {
            return NO;
        }
        int before = isSet(toldToBeKept, routine) ? 1 : 0;
        if (is) {
            toldToBeKept |= 1 << routine;
        } else {
            toldToBeKept &= ~(1 << routine);
            shelf.dropOf(routine);
        }
        return before;
    }

    public int room(int room, int rule) {
        if (!isRoom(room) || rule < RULE_OLDEST || rule > RULE_FEWEST_STEPS) {
            return OUTSIDE;
        }
        return shelf.furnish(room, rule);
    }

    public int forget() {
        return shelf.dropAll();
    }

    public int kept(int i, int what) {
        if (!shelf.has(i)) {
            return KEPT_UNKNOWN;
        }
        Keepsake one = shelf.at(i);
        if (what >= 0 && what <= 8) {
            return one.fact(what, world);
        }
        if (what >= 10 && what < 10 + NUMBERS) {
            return one.numberWas(what - 10);
        }
        if (what >= 20 && what < 20 + STORES) {
            return one.storeWas(what - 20);
        }
        return KEPT_OUTSIDE;
    }

    // ---- 3 what is worth it

    public int log(int routine, int a, int b, int c) {
        if (!program.hasRoutine(routine)) {
            return UNKNOWN;
        }
        return runLog.add(routine, a, b, c) ? runLog.size : FULL;
    }

    public int clear() {
        int before = runLog.size;
        runLog.size = 0;
        return before;
    }

    public int cost(int routines, int room) {
        return isRoom(room) ? tryOut(routines, room, NO_LIMIT) : OUTSIDE;
    }

    public int best(int room) {
        if (!isRoom(room)) {
            return OUTSIDE;
        }
        int candidates = program.firstKeepable(MOST_CANDIDATES);
        int choices = 1 << Integer.bitCount(candidates);
        int chosen = 0;
        int least = tryOut(0, room, NO_LIMIT);
        // Choices rise with the routines' numbers, so of alike ones the least number is met first.
        for (int choice = 1; choice < choices; choice++) {
            int routines = pick(choice, candidates);
            int price = tryOut(routines, room, least);
            boolean fewer = Integer.bitCount(routines) < Integer.bitCount(chosen);
            if (price < least || price == least && fewer) {
                least = price;
                chosen = routines;
            }
        }
        return chosen;
    }

    public int told(int what) {
        switch (what) {
            case 0: return program.count;
            case 1: return shelf.count;
            case 2: return shelf.places;
            case 3: return shelf.order;
            case 4: return runLog.size;
            case 5: return toldToBeKept;
            case 6: return world.theLot;
            default: return OUTSIDE;
        }
    }

    /**
     * The real steps of all runs of the log. Ends early once they are more than the limit: best()
     * needs to know no more of a choice that has lost already.
     */
    private int tryOut(int routines, int room, int limit) {
        trialWorld.copyFrom(world);
        trialShelf.dropAll();
        trialShelf.furnish(room, shelf.order);
        int keptOnes = routines & program.keepable();
        int total = 0;
        for (int i = 0; i < runLog.size && total <= limit; i++) {
            trialMachine.start(runLog.fact(i, RunLog.ROUTINE), runLog.fact(i, RunLog.A),
                    runLog.fact(i, RunLog.B), runLog.fact(i, RunLog.C), keptOnes);
            total += trialMachine.realSteps;
        }
        return total;
    }

    /** Of the bits that are set in candidates, those whose places are set in choice. */
    private static int pick(int choice, int candidates) {
        int picked = 0;
        int place = 0;
        for (int routine = 0; routine < MOST_ROUTINES; routine++) {
            if (isSet(candidates, routine)) {
                if (isSet(choice, place)) {
                    picked |= 1 << routine;
                }
                place++;
            }
        }
        return picked;
    }

    private static boolean isCode(int c) {
        if (c < 0 || c > MOST_CODE) {
            return false;
        }
        int rest = c % 100;
        switch (c / 100) {
            case CONSTANT: return true;
            case NUMBER: return rest < NUMBERS;
            case LOAD: return rest < STORES;
            case SAVE: return rest < STORES;
            case CALL: return rest < MOST_ROUTINES;
            case OPERATION: return rest <= DRAW;
            default: return rest >= 1 && rest <= MOST_LEFT_OUT;
        }
    }

    private static boolean isRoom(int room) {
        return room >= 0 && room <= MOST_ROOM;
    }

    private static boolean isSet(int bits, int place) {
        return (bits >> place & 1) != 0;
    }

    /** The routines, with what each may do and read through whatever calls. */
    private static final class Program {
        private final int[][] codes;
        private final int[] lengths;
        private final int[] actings;
        private final int[] readings;
        private final int[] callings;
        private int count;

        Program() {
            codes = new int[MOST_ROUTINES][MOST_CODES];
            lengths = new int[MOST_ROUTINES];
            actings = new int[MOST_ROUTINES];
            readings = new int[MOST_ROUTINES];
            callings = new int[MOST_ROUTINES];
            count = 0;
        }

        boolean isFull() {
            return count >= MOST_ROUTINES;
        }

        boolean hasRoutine(int routine) {
            return routine >= 0 && routine < count;
        }

        int lengthOf(int routine) {
            return hasRoutine(routine) ? lengths[routine] : 0;
        }

        int codeOf(int routine, int i) {
            return i >= 0 && i < lengthOf(routine) ? codes[routine][i] : NONE;
        }

        int actingOf(int routine) {
            return hasRoutine(routine) ? actings[routine] : 0;
        }

        int readingOf(int routine) {
            return hasRoutine(routine) ? readings[routine] : 0;
        }

        int addRoutine() {
            if (!isFull()) {
                count++;
            }
            return count - 1;
        }

        void addCode(int routine, int c) {
            int length = lengthOf(routine);
            if (!hasRoutine(routine) || length >= MOST_CODES) {
                return;
            }
            codes[routine][length] = c;
            lengths[routine] = length + 1;
            int rest = c % 100;
            switch (c / 100) {
                case LOAD: readings[routine] |= 1 << rest; break;
                case SAVE: actings[routine] |= MAY_ACT; break;
                case CALL: callings[routine] |= 1 << rest; break;
                case OPERATION: actings[routine] |= rest == DRAW ? MAY_DRAW : 0; break;
                default: break;
            }
            spreadToCallers();
        }

        /** As many rounds as routines are enough: no chain of calls without a ring is longer. */
        private void spreadToCallers() {
            for (int round = 0; round < count; round++) {
                for (int caller = 0; caller < count; caller++) {
                    gatherFromCalled(caller);
                }
            }
        }

        /** Routines that are not there have nothing set, so their bits need no test. */
        private void gatherFromCalled(int caller) {
            for (int called = 0; called < MOST_ROUTINES; called++) {
                if (isSet(callings[caller], called)) {
                    actings[caller] |= actings[called];
                    readings[caller] |= readings[called];
                }
            }
        }

        int keepable() {
            return firstKeepable(MOST_ROUTINES);
        }

        int firstKeepable(int most) {
            int found = 0;
            for (int routine = 0; routine < count && Integer.bitCount(found) < most; routine++) {
                if (actings[routine] == 0) {
                    found |= 1 << routine;
                }
            }
            return found;
        }
    }

    /** The stores and the lot. */
    private static final class World {
        private final int[] values;
        private int theLot;

        World() {
            values = new int[STORES];
            theLot = 1;
        }

        int valueOf(int s) {
            return s >= 0 && s < STORES ? values[s] : 0;
        }

        void setValue(int s, int v) {
            if (s >= 0 && s < STORES) {
                values[s] = v;
            }
        }

        int nextLot() {
            theLot = 69069 * theLot + 1;
            return theLot >>> 16;
        }

        void copyFrom(World other) {
            for (int s = 0; s < STORES; s++) {
                values[s] = other.values[s];
            }
            theLot = other.theLot;
        }
    }

    /** One call: the numbers it took, its row, and what it and the calls within have read so far. */
    private static final class Frame {
        private final int[] numbers;
        private final int[] row;
        private int size;
        private int numbersRead;
        private int storesRead;
        private int within;
        private int result;

        Frame() {
            numbers = new int[NUMBERS];
            row = new int[MOST_IN_ROW];
        }

        void begin(int a, int b, int c) {
            numbers[0] = a;
            numbers[1] = b;
            numbers[2] = c;
            size = 0;
            numbersRead = 0;
            storesRead = 0;
            within = 0;
            result = 0;
        }

        int numberOf(int i) {
            return i >= 0 && i < NUMBERS ? numbers[i] : 0;
        }

        boolean isFull() {
            return size >= MOST_IN_ROW;
        }

        int put(int value) {
            if (size < 0 || size >= MOST_IN_ROW) {
                return ROW_IS_FULL;
            }
            row[size] = value;
            size++;
            return OVER;
        }

        int last() {
            return size >= 1 && size <= MOST_IN_ROW ? row[size - 1] : 0;
        }

        int take() {
            if (size < 1 || size > MOST_IN_ROW) {
                return 0;
            }
            size--;
            return row[size];
        }

        void joinCalled(Frame called) {
            storesRead |= called.storesRead;
            if (called.within >= within) {
                within = called.within + 1;
            }
        }
    }

    /** One kept answer, with all it was read from. */
    private static final class Keepsake {
        private final int[] numbers;
        private final int[] stores;
        private int ofRoutine;
        private int numbersRead;
        private int storesRead;
        private int result;
        private int refusal;
        private int steps;
        private int within;
        private int hits;
        private int usedAt;

        Keepsake() {
            numbers = new int[NUMBERS];
            stores = new int[STORES];
        }

        void fill(int routine, Frame frame, World world, int refused, int stepsDone) {
            ofRoutine = routine;
            numbersRead = frame.numbersRead;
            storesRead = frame.storesRead;
            result = frame.result;
            refusal = refused;
            steps = stepsDone;
            within = frame.within;
            hits = 0;
            for (int i = 0; i < NUMBERS; i++) {
                numbers[i] = isSet(numbersRead, i) ? frame.numberOf(i) : 0;
            }
            for (int s = 0; s < STORES; s++) {
                stores[s] = isSet(storesRead, s) ? world.valueOf(s) : 0;
            }
        }

        boolean holdsFor(int routine, Frame frame, World world) {
            return ofRoutine == routine && numbersAreAlike(frame) && storesAreAlike(world);
        }

        private boolean numbersAreAlike(Frame frame) {
            for (int i = 0; i < NUMBERS; i++) {
                if (isSet(numbersRead, i) && numbers[i] != frame.numberOf(i)) {
                    return false;
                }
            }
            return true;
        }

        private boolean storesAreAlike(World world) {
            for (int s = 0; s < STORES && storesRead >> s != 0; s++) {
                if (isSet(storesRead, s) && stores[s] != world.valueOf(s)) {
                    return false;
                }
            }
            return true;
        }

        int fact(int what, World world) {
            switch (what) {
                case 0: return ofRoutine;
                case 1: return numbersRead;
                case 2: return storesRead;
                case 3: return result;
                case 4: return refusal;
                case 5: return steps;
                case 6: return within;
                case 7: return hits;
                default: return storesAreAlike(world) ? 1 : 0;
            }
        }

        int numberWas(int i) {
            return i >= 0 && i < NUMBERS ? numbers[i] : 0;
        }

        int storeWas(int s) {
            return s >= 0 && s < STORES ? stores[s] : 0;
        }
    }

    /** The kept ones in their order. Those that went wait behind the others to be used again. */
    private static final class Shelf {
        private final Keepsake[] row;
        private int count;
        private int places;
        private int order;
        private int now;

        Shelf() {
            row = new Keepsake[MOST_ROOM];
            for (int i = 0; i < MOST_ROOM; i++) {
                row[i] = new Keepsake();
            }
            count = 0;
            places = FIRST_ROOM;
            order = RULE_OLDEST;
            now = 0;
        }

        boolean has(int i) {
            return i >= 0 && i < count;
        }

        /** The caller has asked has() before; beyond it stands the first, so that there is one. */
        Keepsake at(int i) {
            return row[has(i) ? i : 0];
        }

        int firstThatHolds(int routine, Frame frame, World world) {
            for (int i = 0; i < count; i++) {
                if (row[i].holdsFor(routine, frame, world)) {
                    return i;
                }
            }
            return NONE;
        }

        void touch(Keepsake one) {
            now++;
            one.usedAt = now;
        }

        void add(int routine, Frame frame, World world, int refused, int stepsDone) {
            if (places <= 0) {
                return;
            }
            if (count >= places) {
                drop(nextToGo());
            }
            if (count < 0 || count >= MOST_ROOM) {
                return;
            }
            Keepsake one = row[count];
            count++;
            one.fill(routine, frame, world, refused, stepsDone);
            touch(one);
        }

        private int nextToGo() {
            int goes = 0;
            for (int i = 1; i < count; i++) {
                if (goesAheadOf(row[i], row[goes])) {
                    goes = i;
                }
            }
            return goes;
        }

        /** Whether the later of two is the one to go; if neither rule says so, the first goes. */
        private boolean goesAheadOf(Keepsake later, Keepsake earlier) {
            if (order == RULE_OLDEST) {
                return later.usedAt < earlier.usedAt;
            }
            return order == RULE_FEWEST_STEPS && later.steps < earlier.steps;
        }

        private void drop(int place) {
            if (!has(place)) {
                return;
            }
            Keepsake gone = row[place];
            for (int i = place; i < count - 1; i++) {
                row[i] = row[i + 1];
            }
            count--;
            row[count] = gone;
        }

        int dropAll() {
            int before = count;
            count = 0;
            return before;
        }

        void dropOf(int routine) {
            for (int i = count - 1; i >= 0; i--) {
                if (row[i].ofRoutine == routine) {
                    drop(i);
                }
            }
        }

        int furnish(int newPlaces, int newOrder) {
            int tooMany = Math.max(0, count - newPlaces);
            for (int i = 0; i < tooMany; i++) {
                drop(0);
            }
            places = newPlaces;
            order = newOrder;
            return tooMany;
        }
    }

    /** Runs routines, and holds what is told of the latest run. */
    private static final class Machine {
        private final Program program;
        private final World world;
        private final Shelf shelf;
        private final Frame[] frames;
        private int keptOnes;
        private int steps;
        private int realSteps;
        private int hits;
        private int misses;
        private int deepest;
        private int refusal;
        private int result;

        Machine(Program itsProgram, World itsWorld, Shelf itsShelf) {
            program = itsProgram;
            world = itsWorld;
            shelf = itsShelf;
            frames = new Frame[MOST_CALLS];
            for (int i = 0; i < MOST_CALLS; i++) {
                frames[i] = new Frame();
            }
        }

        void start(int routine, int a, int b, int c, int routinesKept) {
            keptOnes = routinesKept;
            steps = 0;
            realSteps = 0;
            hits = 0;
            misses = 0;
            Frame first = frames[0];
            first.begin(a, b, c);
            int end = enter(routine, first, 1);
            refusal = end == TOO_DEEP ? NOT_THERE : end;
            result = first.result;
            deepest = first.within + 1;
        }

        /** A call, its numbers being in the frame; depth: the calls within one another with it. */
        private int enter(int routine, Frame frame, int depth) {
            if (!isSet(keptOnes, routine)) {
                return walk(routine, frame, depth);
            }
            int place = shelf.firstThatHolds(routine, frame, world);
            if (shelf.has(place) && fits(shelf.at(place), depth)) {
                return recall(shelf.at(place), frame);
            }
            misses++;
            int before = steps;
            int end = walk(routine, frame, depth);
            // The two other ends depend on what went on outside the call.
            if (end != TOO_LONG && end != TOO_DEEP) {
                shelf.add(routine, frame, world, end, steps - before);
            }
            return end;
        }

        /** Whether the kept call would have come to its end here, too, if it were done again. */
        private boolean fits(Keepsake one, int depth) {
            return steps + one.steps <= MOST_STEPS && depth + one.within <= MOST_CALLS;
        }

        private int recall(Keepsake one, Frame frame) {
            hits++;
            one.hits++;
            shelf.touch(one);
            steps += one.steps;
            frame.storesRead = one.storesRead;
            frame.within = one.within;
            frame.result = one.result;
            return one.refusal;
        }

        private int walk(int routine, Frame frame, int depth) {
            int length = program.lengthOf(routine);
            for (int at = 0; at < length; at++) {
                if (steps >= MOST_STEPS) {
                    return TOO_LONG;
                }
                steps++;
                realSteps++;
                int c = program.codeOf(routine, at);
                if (c / 100 != LEAVE_OUT) {
                    int end = perform(c, frame, depth);
                    if (end != OVER) {
                        return end;
                    }
                } else if (frame.size < 1) {
                    return TOO_FEW;
                } else if (frame.take() == 0) {
                    at += c % 100;
                }
            }
            frame.result = frame.last();
            return OVER;
        }

        private int perform(int c, Frame frame, int depth) {
            int rest = c % 100;
            switch (c / 100) {
                case CONSTANT: return frame.put(rest);
                case NUMBER: return readNumber(rest, frame);
                case LOAD: return readStore(rest, frame);
                case SAVE: return writeStore(rest, frame);
                case CALL: return callRoutine(rest, frame, depth);
                default: return rest < TAKE_AWAY ? combine(rest, frame) : changeEnd(rest, frame);
            }
        }

        /** A code that is refused has read nothing. */
        private int readNumber(int i, Frame frame) {
            if (frame.isFull()) {
                return ROW_IS_FULL;
            }
            frame.numbersRead |= 1 << i;
            return frame.put(frame.numberOf(i));
        }

        private int readStore(int s, Frame frame) {
            if (frame.isFull()) {
                return ROW_IS_FULL;
            }
            frame.storesRead |= 1 << s;
            return frame.put(world.valueOf(s));
        }

        private int writeStore(int s, Frame frame) {
            if (frame.size < 1) {
                return TOO_FEW;
            }
            world.setValue(s, frame.take());
            return OVER;
        }

        private int callRoutine(int routine, Frame frame, int depth) {
            if (frame.size < NUMBERS) {
                return TOO_FEW;
            }
            if (!program.hasRoutine(routine)) {
                return NOT_THERE;
            }
            if (depth < 0 || depth >= MOST_CALLS) {
                return TOO_DEEP;
            }
            Frame called = frames[depth];
            int c = frame.take();
            int b = frame.take();
            int a = frame.take();
            called.begin(a, b, c);
            int end = enter(routine, called, depth + 1);
            frame.joinCalled(called);
            return end == OVER ? frame.put(called.result) : end;
        }

        private int combine(int operation, Frame frame) {
            if (frame.size < 2) {
                return TOO_FEW;
            }
            int last = frame.take();
            int ahead = frame.take();
            switch (operation) {
                case SUM: return frame.put(ahead + last);
                case DIFFERENCE: return frame.put(ahead - last);
                case PRODUCT: return frame.put(ahead * last);
                case QUOTIENT: return last == 0 ? BY_ZERO : frame.put(ahead / last);
                case LESS: return frame.put(ahead < last ? 1 : 0);
                default: return frame.put(ahead == last ? 1 : 0);
            }
        }

        private int changeEnd(int operation, Frame frame) {
            if (operation == DRAW) {
                return frame.isFull() ? ROW_IS_FULL : frame.put(world.nextLot());
            }
            if (frame.size < 1) {
                return TOO_FEW;
            }
            if (operation == ONCE_MORE) {
                return frame.put(frame.last());
            }
            frame.take();
            return OVER;
        }
    }

    /** The runs told, one behind the other. */
    private static final class RunLog {
        private static final int ROUTINE = 0;
        private static final int A = 1;
        private static final int B = 2;
        private static final int C = 3;
        private static final int FACTS = 4;

        private final int[][] runs;
        private int size;

        RunLog() {
            runs = new int[MOST_RUNS][FACTS];
            size = 0;
        }

        boolean add(int routine, int a, int b, int c) {
            if (size < 0 || size >= MOST_RUNS) {
                return false;
            }
            int[] run = runs[size];
            run[ROUTINE] = routine;
            run[A] = a;
            run[B] = b;
            run[C] = c;
            size++;
            return true;
        }

        int fact(int i, int which) {
            return i >= 0 && i < size && which >= 0 && which < FACTS ? runs[i][which] : 0;
        }
    }
}
