import java.util.Arrays;

/**
 * Masts and callers who move: fields, calls, hand-overs, drops, learnt neighbours, and what masts cover.
 * The document (DOC.md) tells what every public method answers; words in capitals here are its terms.
 *
 * <p>Everything an object needs is made in its constructor: no later call makes an object or an array.
 */
public final class MastField {
    public static final int NONE = -1;

    private static final int BLOCKED_ANSWER = -2;
    private static final int NO_FIELD = -1000;

    private static final int LEAST_SIDE = 2;
    private static final int MOST_SIDE = 10;
    private static final int FIRST_SIDE = 8;
    private static final int MOST_CELLS = 100;
    private static final int MOST_SHADE = 20;
    private static final int MOST_MASTS = 8;
    private static final int ALL_MASTS = 255;
    private static final int MOST_POWER = 200;
    private static final int MOST_REACH = 10;
    private static final int MOST_PLACES = 20;
    private static final int MOST_CALLERS = 20;
    private static final int MOST_SPOTS = 20;
    private static final int MOST_TICKS = 10000;

    private static final int TAPE_BYTES = 60;
    private static final int FEED_BYTES = 20;

    private static final int MOST_CHOSEN = 4;
    private static final int REACHES_EACH = 3;

    private static final int MOST_LOSS_PLACES = 6;
    private static final int MOST_LOSS_CALLS = 20;
    private static final int MILLION = 1000000;

    /** The letters of THE RULES, in the order of count(20) to count(25). */
    private static final String LETTERS = "htmdwn";
    private static final int[] RULES_AT_FIRST = {6, 2, 20, 1, 10, 3};
    private static final int[] LEAST_NUMBERS = {0, 1, 0, 0, 0, 1};
    private static final int[] MOST_NUMBERS = {50, 9, 100, 9, 99, 99};
    private static final int RULE_COUNT = 6;
    private static final int BAR = 0;
    private static final int WAIT_TICKS = 1;
    private static final int LEAST_FIELD = 2;
    private static final int DOUBLE_TICKS = 3;
    private static final int BACK_TICKS = 4;
    private static final int LEARN_REPORTS = 5;

    /** Places in the tally: the numbers by which count asks for them. */
    private static final int BLOCKED = 6;
    private static final int HANDED_OVER = 7;
    private static final int BACK = 8;
    private static final int HELD_UP = 9;
    private static final int DROPPED_BY = 9;
    private static final int LAST_DROPPED = 13;
    private static final int LEARNT = 17;
    private static final int TALLY_SIZE = 18;
    private static final int COUNT_RULES = 20;
    private static final int COUNT_SHADES = 30;

    private final Ground ground = new Ground();
    private final Tape tape = new Tape();
    private final Rules law = new Rules();
    private final Mast[] masts = new Mast[MOST_MASTS];
    private final Caller[] callers = new Caller[MOST_CALLERS];
    private final int[] spots = new int[MOST_SPOTS];
    private final int[] tally = new int[TALLY_SIZE];
    /** Bits of masts (of reaches) by spot or cell, while a search runs. */
    private final int[] bitsOf = new int[MOST_CELLS];
    private int mastCount;
    private int callerCount;
    private int spotCount;
    private int now;

    public MastField() {
        for (int m = 0; m < MOST_MASTS; m++) {
            masts[m] = new Mast();
        }
        for (int k = 0; k < MOST_CALLERS; k++) {
            callers[k] = new Caller();
        }
        startAnew(FIRST_SIDE, FIRST_SIDE);
    }

    public boolean map(int w, int h) {
        if (!isWithin(w, LEAST_SIDE, MOST_SIDE) || !isWithin(h, LEAST_SIDE, MOST_SIDE)) {
            return false;
        }
        startAnew(w, h);
        return true;
    }

    public boolean shade(int c, int n) {
        if (!ground.has(c) || !isWithin(n, 0, MOST_SHADE)) {
            return false;
        }
        ground.shades[c] = n;
        return true;
    }

    public int mast(int c, int power, int reach, int places) {
        if (mastCount >= MOST_MASTS || !ground.has(c) || !isWithin(power, 0, MOST_POWER)
                || !isWithin(reach, 0, MOST_REACH) || !isWithin(places, 0, MOST_PLACES)) {
            return NONE;
        }
        masts[mastCount].build(c, power, reach, places);
        mastCount++;
        return mastCount - 1;
    }

    public boolean reach(int m, int n) {
        if (!isMast(m) || !isWithin(n, 0, MOST_REACH)) {
            return false;
        }
        masts[m].reach = n;
        return true;
    }

    public boolean wake(int m, boolean is) {
        if (!isMast(m) || masts[m].awake == is) {
            return false;
        }
        masts[m].awake = is;
        return true;
    }

    public int field(int m, int c) {
        return isMast(m) && ground.has(c) ? fieldOf(masts[m], masts[m].reach, c) : NO_FIELD;
    }

    public int feed(int a, int b, int c, int d, int e) {
        if (tape.length + FEED_BYTES > TAPE_BYTES) {
            return NONE;
        }
        tape.append(a);
        tape.append(b);
        tape.append(c);
        tape.append(d);
        tape.append(e);
        return tape.length;
    }

    public int rules(int n) {
        if (!isWithin(n, 0, tape.length)) {
            return NONE;
        }
        tape.length = 0;
        return law.read(tape.bytes, n);
    }

    public boolean neighbour(int a, int b, boolean is) {
        if (!isPair(a, b) || isIn(masts[a].neighbours, b) == is) {
            return false;
        }
        masts[a].neighbours ^= 1 << b;
        return true;
    }

    public int caller(int c) {
        if (callerCount >= MOST_CALLERS || !ground.has(c)) {
            return NONE;
        }
        callers[callerCount].arrive(c);
        callerCount++;
        return callerCount - 1;
    }

    public boolean move(int k, int c) {
        if (!isCaller(k) || !ground.has(c)) {
            return false;
        }
        callers[k].cell = c;
        return true;
    }

    public int call(int k) {
        if (!isCaller(k) || callers[k].mast != NONE) {
            return NONE;
        }
        int m = strongestIn(callers[k].cell, freeMasts(), law.numbers[LEAST_FIELD]);
        if (m == NONE) {
            tally[BLOCKED]++;
            return BLOCKED_ANSWER;
        }
        masts[m].taken++;
        callers[k].beginCall(m);
        return m;
    }

    public boolean hang(int k) {
        if (!isCaller(k) || callers[k].mast == NONE) {
            return false;
        }
        endCall(callers[k]);
        return true;
    }

    public int tick() {
        if (now >= MOST_TICKS) {
            return NONE;
        }
        now++;
        for (int k = 0; k < callerCount; k++) {
            if (callers[k].mast != NONE) {
                passTick(callers[k]);
            }
        }
        return now;
    }

    public int look(int k, int what) {
        if (!isCaller(k)) {
            return NONE;
        }
        Caller it = callers[k];
        switch (what) {
            case 0: return it.cell;
            case 1: return it.mast;
            case 2: return it.oldMast;
            case 3: return it.waited;
            case 4: return it.handOvers;
            case 5: return it.cause;
            default: return NONE;
        }
    }

    public int about(int m, int what) {
        if (!isMast(m)) {
            return NONE;
        }
        Mast it = masts[m];
        switch (what) {
            case 0: return it.cell;
            case 1: return it.power;
            case 2: return it.reach;
            case 3: return it.places;
            case 4: return it.taken;
            case 5: return it.awake ? 1 : 0;
            case 6: return it.neighbours;
            case 7: return cellsHearing(1 << m);
            default: return NONE;
        }
    }

    public int reports(int a, int b) {
        return isPair(a, b) ? masts[a].reported[b] : NONE;
    }

    public int covered(int c) {
        if (!ground.has(c)) {
            return NONE;
        }
        return heardIn(c, ALL_MASTS) != 0 ? 1 : 0;
    }

    public boolean spot(int c) {
        if (spotCount >= MOST_SPOTS || !ground.has(c) || isSpot(c)) {
            return false;
        }
        spots[spotCount] = c;
        spotCount++;
        return true;
    }

    public int sleep() {
        for (int i = 0; i < spotCount; i++) {
            bitsOf[i] = heardIn(spots[i], ALL_MASTS);
        }
        int awake = awakeMasts();
        int most = 0;
        // From the least set upwards, so that the first of like ones stays.
        for (int set = 1; set <= awake; set++) {
            if ((set & ~awake) == 0 && Integer.bitCount(set) > Integer.bitCount(most) && canSpare(set)) {
                most = set;
            }
        }
        return most;
    }

    public int best(int i) {
        int chosen = Math.min(mastCount, MOST_CHOSEN);
        if (i != NONE && !isWithin(i, 0, chosen - 1)) {
            return NONE;
        }
        findReachBits(chosen);
        int row = bestRow(chosen);
        return i == NONE ? cellsByRow(row, chosen) : reachOf(digitOf(row, i, chosen));
    }

    public int loss(int c, int a, int b) {
        if (!isWithin(c, 0, MOST_LOSS_PLACES) || !isWithin(a, 1, MOST_LOSS_CALLS)
                || !isWithin(b, 1, MOST_LOSS_CALLS)) {
            return NONE;
        }
        // Both sides of the share times b^c c!, by which all its parts are whole numbers.
        long last = 1;
        long sum = 1;
        for (int i = 1; i <= c; i++) {
            last *= a;
            sum = sum * b * i + last;
        }
        return sum > 0 ? (int) (last * MILLION / sum) : NONE;
    }

    public int count(int what) {
        switch (what) {
            case 0: return ground.columns;
            case 1: return ground.rows;
            case 2: return mastCount;
            case 3: return callerCount;
            case 4: return callersInCall();
            case 5: return now;
            case 14: return spotCount;
            case 15: return cellsHearing(ALL_MASTS);
            case 16: return tape.length;
            default: break;
        }
        if (isWithin(what, BLOCKED, LAST_DROPPED) || what == LEARNT) {
            return tally[what];
        }
        if (isWithin(what, COUNT_RULES, COUNT_RULES + RULE_COUNT - 1)) {
            return law.numbers[what - COUNT_RULES];
        }
        return what >= COUNT_SHADES && ground.has(what - COUNT_SHADES) ? ground.shades[what - COUNT_SHADES] : NONE;
    }

    private void startAnew(int w, int h) {
        ground.layOut(w, h);
        Arrays.fill(tally, 0);
        mastCount = 0;
        callerCount = 0;
        spotCount = 0;
        now = 0;
    }

    private static boolean isWithin(int n, int least, int most) {
        return n >= least && n <= most;
    }

    private static boolean isIn(int set, int m) {
        return (set & 1 << m) != 0;
    }

    private boolean isMast(int m) {
        return m >= 0 && m < mastCount;
    }

    private boolean isPair(int a, int b) {
        return isMast(a) && isMast(b) && a != b;
    }

    private boolean isCaller(int k) {
        return k >= 0 && k < callerCount;
    }

    private boolean isSpot(int c) {
        for (int i = 0; i < spotCount; i++) {
            if (spots[i] == c) {
                return true;
            }
        }
        return false;
    }

    private int callersInCall() {
        int sum = 0;
        for (int k = 0; k < callerCount; k++) {
            if (callers[k].mast != NONE) {
                sum++;
            }
        }
        return sum;
    }

    // ---- fields ----

    /** The field of a mast in a cell, with its own reach or another. */
    private int fieldOf(Mast it, int reach, int cell) {
        if (!it.awake) {
            return NO_FIELD;
        }
        int steps = ground.steps(it.cell, cell);
        int beyond = Math.max(0, steps - reach);
        return it.power - 3 * steps - 4 * beyond - ground.shadesOnTheWay(it.cell, cell, steps);
    }

    /** Of the masts of a set whose field in the cell is the bar or more, the one with the greatest, or NONE. */
    private int strongestIn(int cell, int set, int bar) {
        int strongest = NONE;
        int greatest = bar - 1;
        for (int m = 0; m < mastCount; m++) {
            if (isIn(set, m)) {
                int field = fieldOf(masts[m], masts[m].reach, cell);
                if (field > greatest) {
                    strongest = m;
                    greatest = field;
                }
            }
        }
        return strongest;
    }

    /** The masts of a set, as bits, whose field in the cell is the least field or more. */
    private int heardIn(int cell, int set) {
        int heard = 0;
        for (int m = 0; m < mastCount; m++) {
            if (isIn(set, m) && fieldOf(masts[m], masts[m].reach, cell) >= law.numbers[LEAST_FIELD]) {
                heard |= 1 << m;
            }
        }
        return heard;
    }

    private int cellsHearing(int set) {
        int sum = 0;
        for (int c = 0; c < ground.size(); c++) {
            if (heardIn(c, set) != 0) {
                sum++;
            }
        }
        return sum;
    }

    private int awakeMasts() {
        int set = 0;
        for (int m = 0; m < mastCount; m++) {
            if (masts[m].awake) {
                set |= 1 << m;
            }
        }
        return set;
    }

    private int freeMasts() {
        int set = 0;
        for (int m = 0; m < mastCount; m++) {
            if (masts[m].hasFreePlace()) {
                set |= 1 << m;
            }
        }
        return set;
    }

    // ---- calls ----

    private void freeOldPlace(Caller it) {
        if (it.oldMast != NONE) {
            masts[it.oldMast].taken--;
            it.oldMast = NONE;
        }
    }

    private void endCall(Caller it) {
        freeOldPlace(it);
        masts[it.mast].taken--;
        it.leaveCall();
    }

    private void passTick(Caller it) {
        if (now >= it.oldTill) {
            freeOldPlace(it);
        }
        int own = fieldOf(masts[it.mast], masts[it.mast].reach, it.cell);
        if (own < law.numbers[LEAST_FIELD]) {
            dropCall(it);
            return;
        }
        seekTarget(it, own);
        makeReport(it);
    }

    private void dropCall(Caller it) {
        int neighbours = masts[it.mast].neighbours;
        endCall(it);
        // The lost mast itself is not heard: its field is below the least one.
        int heard = heardIn(it.cell, ALL_MASTS);
        it.cause = causeOf(heard, heard & freeMasts(), neighbours);
        tally[DROPPED_BY + it.cause]++;
    }

    private static int causeOf(int heard, int free, int neighbours) {
        if (heard == 0) {
            return 1;
        }
        if (free == 0) {
            return 2;
        }
        return (free & neighbours) == 0 ? 3 : 4;
    }

    private void seekTarget(Caller it, int own) {
        int target = strongestIn(it.cell, masts[it.mast].neighbours, own + law.numbers[BAR]);
        it.aimAt(target);
        if (target == NONE || it.waited < law.numbers[WAIT_TICKS]) {
            return;
        }
        if (masts[target].hasFreePlace()) {
            handOver(it, target);
        } else {
            tally[HELD_UP]++;
        }
    }

    private void handOver(Caller it, int target) {
        masts[target].taken++;
        if (law.numbers[DOUBLE_TICKS] == 0 || it.oldMast != NONE) {
            masts[it.mast].taken--;
        } else {
            it.oldMast = it.mast;
            it.oldTill = now + law.numbers[DOUBLE_TICKS];
        }
        tally[HANDED_OVER]++;
        if (target == it.cameFrom && now - it.cameAt <= law.numbers[BACK_TICKS]) {
            tally[BACK]++;
        }
        it.changeMast(target, now);
    }

    private void makeReport(Caller it) {
        Mast own = masts[it.mast];
        int strangers = ~(own.neighbours | 1 << it.mast);
        int bar = fieldOf(own, own.reach, it.cell) + law.numbers[BAR];
        int heard = strongestIn(it.cell, strangers, bar);
        if (heard == NONE) {
            return;
        }
        own.reported[heard]++;
        // More than enough, too: the rules may have changed since the last report.
        if (own.reported[heard] >= law.numbers[LEARN_REPORTS]) {
            own.reported[heard] = 0;
            own.neighbours |= 1 << heard;
            tally[LEARNT]++;
        }
    }

    // ---- sleep and reaches ----

    /** Whether every covered spot stays covered without the masts of the set; bitsOf has who is heard where. */
    private boolean canSpare(int set) {
        for (int i = 0; i < spotCount; i++) {
            if (bitsOf[i] != 0 && (bitsOf[i] & ~set) == 0) {
                return false;
            }
        }
        return true;
    }

    /** For each cell what covers it: its reach bits, or all bits if a mast behind the chosen ones does anyway. */
    private void findReachBits(int chosen) {
        int others = ALL_MASTS & ALL_MASTS << chosen;
        for (int c = 0; c < ground.size(); c++) {
            bitsOf[c] = heardIn(c, others) != 0 ? -1 : reachBits(c, chosen);
        }
    }

    /** Bit 3 i + d: the i-th chosen mast covers the cell with the d-th reach. */
    private int reachBits(int cell, int chosen) {
        int bits = 0;
        for (int bit = 0; bit < REACHES_EACH * chosen; bit++) {
            int field = fieldOf(masts[bit / REACHES_EACH], reachOf(bit % REACHES_EACH), cell);
            if (field >= law.numbers[LEAST_FIELD]) {
                bits |= 1 << bit;
            }
        }
        return bits;
    }

    private static int reachOf(int digit) {
        return 1 + 2 * digit;
    }

    /** A row of reaches is a number of as many digits (0, 1, 2) as masts are chosen, the first mast's the highest. */
    private static int digitOf(int row, int i, int chosen) {
        int rest = row;
        for (int behind = chosen - 1; behind > i; behind--) {
            rest /= REACHES_EACH;
        }
        return rest % REACHES_EACH;
    }

    private int bestRow(int chosen) {
        int rows = 1;
        for (int i = 0; i < chosen; i++) {
            rows *= REACHES_EACH;
        }
        int found = 0;
        int most = NONE;
        // Upwards, so that the least of like rows stays.
        for (int row = 0; row < rows; row++) {
            int cells = cellsByRow(row, chosen);
            if (cells > most) {
                found = row;
                most = cells;
            }
        }
        return found;
    }

    private int cellsByRow(int row, int chosen) {
        int choice = 0;
        for (int i = 0; i < chosen; i++) {
            choice |= 1 << REACHES_EACH * i + digitOf(row, i, chosen);
        }
        int cells = 0;
        for (int c = 0; c < ground.size(); c++) {
            if ((bitsOf[c] & choice) != 0) {
                cells++;
            }
        }
        return cells;
    }

    /** The MAP with its SHADES. */
    private static final class Ground {
        private final int[] shades = new int[MOST_CELLS];
        private final int[] columnOf = new int[MOST_CELLS];
        private final int[] rowOf = new int[MOST_CELLS];
        private int columns;
        private int rows;

        private void layOut(int w, int h) {
            columns = w;
            rows = h;
            Arrays.fill(shades, 0);
            for (int row = 0; row < h; row++) {
                for (int column = 0; column < w; column++) {
                    columnOf[w * row + column] = column;
                    rowOf[w * row + column] = row;
                }
            }
        }

        private int size() {
            return columns * rows;
        }

        private boolean has(int cell) {
            return cell >= 0 && cell < size();
        }

        private int steps(int from, int to) {
            return Math.max(Math.abs(columnOf[to] - columnOf[from]), Math.abs(rowOf[to] - rowOf[from]));
        }

        /**
         * Columns and rows are kept in parts of twice the steps. None is below 0, so that the division rounds
         * down and, with the half that is added at first, to the nearest, halves up.
         */
        private int shadesOnTheWay(int from, int to, int steps) {
            if (steps < 1) {
                return 0;
            }
            int parts = 2 * steps;
            int column = parts * columnOf[from] + steps;
            int row = parts * rowOf[from] + steps;
            int sum = 0;
            for (int k = 1; k <= steps; k++) {
                column += 2 * (columnOf[to] - columnOf[from]);
                row += 2 * (rowOf[to] - rowOf[from]);
                int cell = columns * (row / parts) + column / parts;
                sum += has(cell) ? shades[cell] : 0;
            }
            return sum;
        }
    }

    /** The bytes that wait to become THE RULES. */
    private static final class Tape {
        private final byte[] bytes = new byte[TAPE_BYTES];
        private int length;

        private void append(int word) {
            for (int shift = 24; shift >= 0 && length < TAPE_BYTES; shift -= 8) {
                bytes[length] = (byte) (word >> shift);
                length++;
            }
        }
    }

    /** THE RULES, and the reading of their TEXT. */
    private static final class Rules {
        private static final int END = -1;
        private static final int MOST_DIGITS = 4;

        private final int[] numbers = RULES_AT_FIRST.clone();
        private final int[] told = new int[RULE_COUNT];
        /** The clause that is being read: NONE while its letter is still to come. */
        private int letter;
        private int digits;
        private int number;

        /** The first n bytes become the rules: 0, or a fault (the rules stay then). */
        private int read(byte[] text, int n) {
            System.arraycopy(RULES_AT_FIRST, 0, told, 0, RULE_COUNT);
            letter = NONE;
            for (int at = 0; at <= n; at++) {
                int fault = readSign(at < n ? text[at] & 255 : END, at);
                if (fault != 0) {
                    return fault;
                }
            }
            System.arraycopy(told, 0, numbers, 0, RULE_COUNT);
            return 0;
        }

        private int readSign(int sign, int at) {
            if (letter == NONE) {
                letter = letterOf(sign);
                digits = 0;
                number = 0;
                return letter == NONE ? faultAt(1, at) : 0;
            }
            if (sign >= '0' && sign <= '9') {
                digits++;
                number = 10 * number + sign - '0';
                return digits > MOST_DIGITS ? faultAt(3, at) : 0;
            }
            return endClause(sign, at);
        }

        private int endClause(int sign, int at) {
            if (digits == 0) {
                return faultAt(2, at);
            }
            if (!isWithin(number, LEAST_NUMBERS[letter], MOST_NUMBERS[letter])) {
                return faultAt(4, at - digits);
            }
            told[letter] = number;
            letter = NONE;
            return sign == ';' || sign == END ? 0 : faultAt(5, at);
        }

        private static int letterOf(int sign) {
            for (int i = 0; i < RULE_COUNT; i++) {
                if (LETTERS.charAt(i) == sign) {
                    return i;
                }
            }
            return NONE;
        }

        private static int faultAt(int fault, int at) {
            return 100 * fault + at;
        }
    }

    /** A MAST; which of its fields count is told by the number of masts. */
    private static final class Mast {
        private final int[] reported = new int[MOST_MASTS];
        private int cell;
        private int power;
        private int reach;
        private int places;
        private int taken;
        private int neighbours;
        private boolean awake;

        private void build(int c, int itsPower, int itsReach, int itsPlaces) {
            cell = c;
            power = itsPower;
            reach = itsReach;
            places = itsPlaces;
            taken = 0;
            neighbours = 0;
            awake = true;
            Arrays.fill(reported, 0);
        }

        private boolean hasFreePlace() {
            return taken < places;
        }
    }

    /** A CALLER and, while one runs, its CALL. */
    private static final class Caller {
        private int cell;
        private int mast;
        private int oldMast;
        private int oldTill;
        private int target;
        private int waited;
        private int handOvers;
        private int cameFrom;
        private int cameAt;
        private int cause;

        private void arrive(int c) {
            cell = c;
            cause = 0;
            leaveCall();
        }

        private void beginCall(int m) {
            mast = m;
            cause = 0;
        }

        private void leaveCall() {
            mast = NONE;
            oldMast = NONE;
            oldTill = 0;
            target = NONE;
            waited = 0;
            handOvers = 0;
            cameFrom = NONE;
            cameAt = 0;
        }

        private void aimAt(int m) {
            if (m == NONE) {
                waited = 0;
            } else {
                waited = m == target ? waited + 1 : 1;
            }
            target = m;
        }

        private void changeMast(int m, int tick) {
            cameFrom = mast;
            cameAt = tick;
            mast = m;
            target = NONE;
            waited = 0;
            handOvers++;
        }
    }
}
