import java.util.NoSuchElementException;

/**
 * Bits under a key. A bit is a row of numbers on a torus of 2 to the power of 32 parts; by the key it
 * lies near one of two places, an eighth above 0 for 1 and an eighth below 0 for 0. Gates work on the
 * rows without the key; a ledger tells how far from its place each bit may be at most.
 */
public final class TorusGates {
    public static final int NONE = -1;

    private static final int MOST_BITS = 120;
    private static final int INPUTS = 8;
    private static final int MOST_LINES = 24;
    private static final int GREATEST_INPUTS = 255;
    private static final int MOST_BLURS = 1000;
    private static final int MOST_PILES = 100;

    private static final int AND = 0;
    private static final int OR = 1;
    private static final int NAND = 2;
    private static final int NOR = 3;
    private static final int XOR = 4;
    private static final int XNOR = 5;
    private static final int AND_NOT = 6;
    private static final int OR_NOT = 7;

    private static final int EIGHTH = 536870912;
    private static final int NEW_BOUND = 16;
    private static final int GATE_BOUND = 3186688;
    private static final int OPEN_LIMIT = 268435456;
    private static final int BOUND_LIMIT = 1073741824;
    private static final int SINGLE_LIMIT = 234881024;
    private static final int DOUBLE_LIMIT = 771751936;

    private final Source source;
    private final Secret secret;
    private final Refresher refresher;
    private final Works works;
    private final Ledger ledger;
    private final Circuit circuit;
    private final Cell[] played;
    private final Cell chosenB;
    private final Cell chosenA;
    private final int[] zeroRow;
    private int gatesDone;
    private int refusals;

    public TorusGates() {
        source = new Source();
        secret = new Secret();
        refresher = new Refresher();
        works = new Works(refresher);
        ledger = new Ledger();
        circuit = new Circuit();
        played = new Cell[INPUTS + MOST_LINES];
        for (int i = 0; i < INPUTS + MOST_LINES; i++) {
            played[i] = new Cell();
        }
        chosenB = new Cell();
        chosenA = new Cell();
        zeroRow = new int[Secret.ROW];
        makeKey(1);
    }

    public int key(int seed) {
        makeKey(seed);
        return ledger.removeAll();
    }

    public int bit(boolean v) throws IllegalStateException {
        int number = freeNumber();
        fillNew(ledger.take(number), v);
        return number;
    }

    public int drop(int a) throws NoSuchElementException {
        Cell cell = cellOf(a);
        ledger.remove(cell);
        return ledger.size;
    }

    public int not(int a) throws NoSuchElementException, IllegalStateException {
        Cell cell = cellOf(a);
        int number = freeNumber();
        ledger.take(number).becomeOpposite(cell);
        return number;
    }

    public int blur(int a, int n) throws NoSuchElementException, IllegalArgumentException, IllegalStateException {
        Cell cell = cellOf(a);
        checkRange(n, MOST_BLURS);
        int raised = checkedBound(cell.bound + (long) NEW_BOUND * n);
        for (int i = 0; i < n; i++) {
            secret.hide(0, zeroRow, Source.ROW_NOISE, source);
            cell.addRow(zeroRow);
        }
        cell.bound = raised;
        return raised;
    }

    public int pile(int a, int k) throws NoSuchElementException, IllegalArgumentException, IllegalStateException {
        Cell cell = cellOf(a);
        checkRange(k, MOST_PILES);
        int times = 8 * k + 1;
        int raised = checkedBound((long) cell.bound * times);
        cell.multiply(times);
        cell.bound = raised;
        return raised;
    }

    public int gate(int gate, int a, int b) throws NoSuchElementException, IllegalStateException {
        checkKind(gate);
        Cell first = cellOf(a);
        Cell second = cellOf(b);
        refuseIf(isTooFar(gate, first, second));
        int number = freeNumber();
        runGate(gate, first, second, ledger.take(number));
        return number;
    }

    public int choose(int c, int b, int a) throws NoSuchElementException, IllegalStateException {
        Cell chooser = cellOf(c);
        Cell ifOne = cellOf(b);
        Cell ifZero = cellOf(a);
        refuseIf(isTooFar(AND, chooser, ifOne) || isTooFar(AND_NOT, ifZero, chooser));
        int number = freeNumber();
        runGate(AND, chooser, ifOne, chosenB);
        runGate(AND_NOT, ifZero, chooser, chosenA);
        runGate(OR, chosenB, chosenA, ledger.take(number));
        return number;
    }

    public int open(int a) throws NoSuchElementException, IllegalStateException {
        Cell cell = cellOf(a);
        if (cell.bound >= OPEN_LIMIT) {
            throw new IllegalStateException("the bit's bound is too great to open it");
        }
        return secret.placeOf(cell.row) > 0 ? 1 : 0;
    }

    public int bound(int a) throws NoSuchElementException {
        return cellOf(a).bound;
    }

    public boolean within(int a) throws NoSuchElementException {
        Cell cell = cellOf(a);
        int off = secret.placeOf(cell.row) - placeFor(cell.due);
        return off <= cell.bound && off >= -cell.bound;
    }

    public int line(int gate, int a, int b) throws NoSuchElementException, IllegalStateException {
        checkKind(gate);
        if (!circuit.isAhead(a) || !circuit.isAhead(b)) {
            throw new NoSuchElementException("there is no such input and no such line ahead");
        }
        if (circuit.size == MOST_LINES) {
            throw new IllegalStateException("there are 24 lines");
        }
        return circuit.add(gate, a, b);
    }

    public int play(int line, int inputs)
            throws NoSuchElementException, IllegalArgumentException, IllegalStateException {
        if (!circuit.hasLine(line)) {
            throw new NoSuchElementException("there is no such line");
        }
        checkRange(inputs, GREATEST_INPUTS);
        int number = freeNumber();
        for (int k = 0; k < INPUTS; k++) {
            fillNew(played[k], ((inputs >> k) & 1) == 1);
        }
        for (int i = 0; i <= line - INPUTS; i++) {
            runGate(circuit.kinds[i], played[circuit.firsts[i]], played[circuit.seconds[i]], played[INPUTS + i]);
        }
        ledger.take(number).becomeLike(played[line]);
        return number;
    }

    public int clear() {
        return circuit.removeAll();
    }

    public int count(int what) throws IllegalArgumentException {
        switch (what) {
            case 0:
                return ledger.size;
            case 1:
                return gatesDone;
            case 2:
                return refusals;
            case 3:
                return circuit.size;
            case 4:
                return ledger.greatestBound();
            default:
                throw new IllegalArgumentException("there is no such count");
        }
    }

    private void makeKey(int seed) {
        source.restart(seed);
        secret.renew(source);
        refresher.renew(secret, source);
    }

    private Cell cellOf(int a) {
        if (!ledger.holds(a)) {
            throw new NoSuchElementException("there is no such bit");
        }
        return ledger.cells[a];
    }

    private int freeNumber() {
        int number = ledger.leastFree();
        if (number == NONE) {
            throw new IllegalStateException("there are 120 bits");
        }
        return number;
    }

    private void checkKind(int gate) {
        if (gate < AND || gate > OR_NOT) {
            throw new NoSuchElementException("there is no such gate");
        }
    }

    private void checkRange(int value, int most) {
        if (value < 0 || value > most) {
            throw new IllegalArgumentException("the number is out of its range");
        }
    }

    private int checkedBound(long raised) {
        if (raised >= BOUND_LIMIT) {
            throw new IllegalStateException("the bound would be too great");
        }
        return (int) raised;
    }

    /** Comes before the look for a free number: what is refused counts also with 120 bits there. */
    private void refuseIf(boolean tooFar) {
        if (tooFar) {
            refusals++;
            throw new IllegalStateException("the bounds are too great for the gate");
        }
    }

    private void fillNew(Cell cell, boolean v) {
        secret.hide(placeFor(v), cell.row, Source.ROW_NOISE, source);
        cell.bound = NEW_BOUND;
        cell.due = v;
    }

    private void runGate(int gate, Cell first, Cell second, Cell result) {
        works.work(gate, first.row, second.row, result.row);
        result.bound = GATE_BOUND;
        result.due = truth(gate, first.due, second.due);
        gatesDone++;
    }

    /** The sum of two bounds may pass what an int holds when it is doubled. */
    private static boolean isTooFar(int gate, Cell first, Cell second) {
        long sum = (long) first.bound + second.bound;
        if (gate == XOR || gate == XNOR) {
            return 2 * sum >= DOUBLE_LIMIT;
        }
        return sum >= SINGLE_LIMIT;
    }

    private static int placeFor(boolean v) {
        return v ? EIGHTH : -EIGHTH;
    }

    /** Told apart from the rows' arithmetic, so that within() measures the rows against something else. */
    private static boolean truth(int gate, boolean a, boolean b) {
        switch (gate) {
            case AND:
                return a && b;
            case OR:
                return a || b;
            case NAND:
                return !(a && b);
            case NOR:
                return !(a || b);
            case XOR:
                return a != b;
            case XNOR:
                return a == b;
            case AND_NOT:
                return a && !b;
            default:
                return a || !b;
        }
    }

    /** A bit. The value due to it is carried along for within() alone: no gate's row and no open() goes by it. */
    private static final class Cell {
        final int[] row;
        int bound;
        boolean due;
        boolean there;

        Cell() {
            row = new int[Secret.ROW];
        }

        void becomeLike(Cell other) {
            System.arraycopy(other.row, 0, row, 0, Secret.ROW);
            bound = other.bound;
            due = other.due;
        }

        /** The two places lie opposite each other about 0, so that the opposite needs no gate. */
        void becomeOpposite(Cell other) {
            becomeLike(other);
            multiply(-1);
            due = !other.due;
        }

        void addRow(int[] other) {
            for (int i = 0; i < Secret.ROW; i++) {
                row[i] += other[i];
            }
        }

        /** A place is a multiple of an eighth: 8 * k + 1 times it is the same place. */
        void multiply(int times) {
            for (int i = 0; i < Secret.ROW; i++) {
                row[i] *= times;
            }
        }
    }

    /** The bits that are there, by number. */
    private static final class Ledger {
        final Cell[] cells;
        int size;

        Ledger() {
            cells = new Cell[MOST_BITS];
            for (int i = 0; i < MOST_BITS; i++) {
                cells[i] = new Cell();
            }
        }

        boolean holds(int a) {
            return a >= 0 && a < MOST_BITS && cells[a].there;
        }

        int leastFree() {
            for (int i = 0; i < MOST_BITS; i++) {
                if (!cells[i].there) {
                    return i;
                }
            }
            return NONE;
        }

        Cell take(int number) {
            Cell cell = cells[number];
            cell.there = true;
            size++;
            return cell;
        }

        void remove(Cell cell) {
            cell.there = false;
            size--;
        }

        int removeAll() {
            int were = size;
            for (int i = 0; i < MOST_BITS; i++) {
                cells[i].there = false;
            }
            size = 0;
            return were;
        }

        int greatestBound() {
            int greatest = 0;
            for (int i = 0; i < MOST_BITS; i++) {
                if (cells[i].there && cells[i].bound > greatest) {
                    greatest = cells[i].bound;
                }
            }
            return greatest;
        }
    }

    /** Lines of gates, each over inputs and lines ahead of it. */
    private static final class Circuit {
        final int[] kinds;
        final int[] firsts;
        final int[] seconds;
        int size;

        Circuit() {
            kinds = new int[MOST_LINES];
            firsts = new int[MOST_LINES];
            seconds = new int[MOST_LINES];
        }

        boolean isAhead(int a) {
            return a >= 0 && a < INPUTS + size;
        }

        boolean hasLine(int a) {
            return a >= INPUTS && isAhead(a);
        }

        int add(int kind, int first, int second) {
            kinds[size] = kind;
            firsts[size] = first;
            seconds[size] = second;
            size++;
            return INPUTS + size - 1;
        }

        int removeAll() {
            int were = size;
            size = 0;
            return were;
        }
    }

    /** Numbers that a seed alone settles: the same calls always give the same answers. */
    private static final class Source {
        /** Bits of noise: a new row is off by -16 .. 15, a row that helps the gates by -4 .. 3. */
        static final int ROW_NOISE = 5;
        static final int HELP_NOISE = 3;

        private long state;

        void restart(int seed) {
            state = seed;
        }

        int draw() {
            state += 0x9E3779B97F4A7C15L;
            long mixed = (state ^ (state >>> 30)) * 0xBF58476D1CE4E5B9L;
            mixed = (mixed ^ (mixed >>> 27)) * 0x94D049BB133111EBL;
            return (int) (mixed >>> 32);
        }

        int drawNoise(int bits) {
            return (draw() >>> (32 - bits)) - (1 << (bits - 1));
        }
    }

    /** The key: one for rows, and one for the ring in which a gate's result is worked out. */
    private static final class Secret {
        static final int SIZE = 8;
        /** A row is a mask of SIZE numbers and, behind it, the number that the mask hides. */
        static final int ROW = 9;

        final int[] forRows;
        final int[] forRing;

        Secret() {
            forRows = new int[SIZE];
            forRing = new int[Ring.SIZE];
        }

        void renew(Source source) {
            drawBits(forRows, SIZE, source);
            drawBits(forRing, Ring.SIZE, source);
        }

        private static void drawBits(int[] bits, int size, Source source) {
            for (int i = 0; i < size; i++) {
                bits[i] = source.draw() >>> 31;
            }
        }

        void hide(int place, int[] row, int noiseBits, Source source) {
            int hidden = place + source.drawNoise(noiseBits);
            for (int i = 0; i < SIZE; i++) {
                row[i] = source.draw();
                hidden += row[i] * forRows[i];
            }
            row[SIZE] = hidden;
        }

        int placeOf(int[] row) {
            int place = row[SIZE];
            for (int i = 0; i < SIZE; i++) {
                place -= row[i] * forRows[i];
            }
            return place;
        }

        /** Fills a pair of ring elements, a mask and what it hides, that tells nothing. */
        void hideNothing(int[] pair, Source source) {
            for (int i = 0; i < Ring.SIZE; i++) {
                pair[i] = source.draw();
                pair[Ring.SIZE + i] = source.drawNoise(Source.HELP_NOISE);
            }
            for (int i = 0; i < Ring.SIZE; i++) {
                Ring.addTurned(forRing[i], i, pair, 0, pair, Ring.SIZE);
            }
        }
    }

    /** Polynomials of 32 numbers on the torus where X to the power of 32 is -1: X turns once round in 64 steps. */
    private static final class Ring {
        static final int SIZE = 32;
        static final int PAIR = 64;
        static final int TURN_MASK = 63;

        /** Adds times * X^turn * from, for a turn of 0 .. 31. */
        static void addTurned(int times, int turn, int[] from, int fromStart, int[] to, int toStart) {
            int end = fromStart + SIZE;
            int wrap = end - turn;
            int ahead = toStart - fromStart + turn;
            int back = ahead - SIZE;
            for (int i = fromStart; i < wrap; i++) {
                to[i + ahead] += times * from[i];
            }
            for (int i = wrap; i < end; i++) {
                to[i + back] -= times * from[i];
            }
        }

        /** The number before X^i in X^turn * from, for any turn. */
        static int turned(int turn, int i, int[] from, int fromStart) {
            int at = (i - turn) & TURN_MASK;
            return at < SIZE ? from[fromStart + at] : -from[fromStart + at - SIZE];
        }
    }

    /**
     * A number as two digits of -512 .. 511 and a rest of at most 2048: rows that help the gates are
     * multiplied by digits, not by whole numbers, so that their noise stays small.
     */
    private static final class Digits {
        static final int COUNT = 2;
        private static final int BITS = 10;
        private static final int HALF = 512;
        private static final int DIGIT_MASK = 1023;
        private static final int TOP_SHIFT = 22;
        /** Half of each digit's range, so that digits lie about 0, and half of the rest's, so that it is rounded. */
        private static final int HALVES = 0x80200800;

        static int digit(int number, int which) {
            return (((number + HALVES) >>> (TOP_SHIFT - BITS * which)) & DIGIT_MASK) - HALF;
        }

        static int weight(int which) {
            return 1 << (TOP_SHIFT - BITS * which);
        }
    }

    /**
     * Gates over rows. A gate weighs its two rows so that the sum lies above 0 for 1 and below for 0; the
     * sum is then refreshed.
     *
     * Why the limits hold: rounding the 9 numbers of a row to 64 places moves it by at most 9 * 2^25; a
     * sum lies 2^29 (the doubled gates: 2^30) from where its sign would change, and the limits are what
     * is left.
     */
    private static final class Works {
        private static final int[] FIRST_WEIGHTS = {1, 1, -1, -1, 2, -2, 1, 1};
        private static final int[] SECOND_WEIGHTS = {1, 1, -1, -1, 2, -2, -1, -1};
        private static final int[] EIGHTHS = {-1, 1, 1, -1, 2, -2, -1, 1};

        private final Refresher refresher;
        private final int[] sum;

        Works(Refresher refresher) {
            this.refresher = refresher;
            sum = new int[Secret.ROW];
        }

        void work(int gate, int[] first, int[] second, int[] result) {
            for (int i = 0; i < Secret.ROW; i++) {
                sum[i] = FIRST_WEIGHTS[gate] * first[i] + SECOND_WEIGHTS[gate] * second[i];
            }
            sum[Secret.SIZE] += EIGHTHS[gate] * EIGHTH;
            refresher.refresh(sum, result);
        }
    }

    /**
     * Makes of a row another one that lies near a place by its sign. It holds rows that hide the key, and
     * not the key.
     *
     * Why what comes of it lies within 3,186,688: each of 8 steps adds at most 2 * 2 * 32 digits of 512
     * times noise of 4, and 33 rests of 2048; the way back to a row adds 32 * 2 digits of 512 times noise
     * of 4, and 32 rests of 2048. That is 2,834,432 in all, whatever the row was off by before.
     */
    private static final class Refresher {
        private static final int ROUNDING = 33554432;
        private static final int PLACE_SHIFT = 26;
        private static final int ROWS_PER_STEP = 4;

        private final int[][] steps;
        private final int[][] wayBack;
        private final int[] wheel;
        private final int[] change;

        Refresher() {
            steps = new int[Secret.SIZE * ROWS_PER_STEP][Ring.PAIR];
            wayBack = new int[Ring.SIZE * Digits.COUNT][Secret.ROW];
            wheel = new int[Ring.PAIR];
            change = new int[Ring.PAIR];
        }

        void renew(Secret secret, Source source) {
            for (int i = 0; i < Secret.SIZE; i++) {
                renewStep(i, secret, source);
            }
            for (int i = 0; i < Ring.SIZE; i++) {
                for (int which = 0; which < Digits.COUNT; which++) {
                    int hidden = secret.forRing[i] * Digits.weight(which);
                    secret.hide(hidden, wayBack[i * Digits.COUNT + which], Source.HELP_NOISE, source);
                }
            }
        }

        private void renewStep(int i, Secret secret, Source source) {
            for (int half = 0; half < 2; half++) {
                for (int which = 0; which < Digits.COUNT; which++) {
                    int[] pair = steps[i * ROWS_PER_STEP + half * Digits.COUNT + which];
                    secret.hideNothing(pair, source);
                    pair[half * Ring.SIZE] += secret.forRows[i] * Digits.weight(which);
                }
            }
        }

        void refresh(int[] row, int[] result) {
            startWheel(roundToPlaces(row[Secret.SIZE]));
            for (int i = 0; i < Secret.SIZE; i++) {
                turnIfKeyBit(i, roundToPlaces(row[i]));
            }
            comeBack(result);
        }

        /** To one of the 64 places to which X turns. */
        private static int roundToPlaces(int number) {
            return (number + ROUNDING) >>> PLACE_SHIFT;
        }

        /** Turned back by a number above 0, the wheel's first number is an eighth, else minus an eighth. */
        private void startWheel(int back) {
            for (int i = 0; i < Ring.SIZE; i++) {
                wheel[i] = 0;
                wheel[Ring.SIZE + i] = ((i + back) & Ring.TURN_MASK) < Ring.SIZE ? EIGHTH : -EIGHTH;
            }
        }

        /** Adds the change that the turn would make, times the key's bit i as the step's rows hide it. */
        private void turnIfKeyBit(int i, int turn) {
            for (int k = 0; k < Ring.SIZE; k++) {
                change[k] = Ring.turned(turn, k, wheel, 0) - wheel[k];
                change[Ring.SIZE + k] = Ring.turned(turn, k, wheel, Ring.SIZE) - wheel[Ring.SIZE + k];
            }
            for (int half = 0; half < 2; half++) {
                for (int which = 0; which < Digits.COUNT; which++) {
                    addChange(half * Ring.SIZE, which, steps[i * ROWS_PER_STEP + half * Digits.COUNT + which]);
                }
            }
        }

        private void addChange(int start, int which, int[] pair) {
            for (int k = 0; k < Ring.SIZE; k++) {
                int digit = Digits.digit(change[start + k], which);
                if (digit != 0) {
                    Ring.addTurned(digit, k, pair, 0, wheel, 0);
                    Ring.addTurned(digit, k, pair, Ring.SIZE, wheel, Ring.SIZE);
                }
            }
        }

        /** The wheel's first number alone, as a row under the key for rows. */
        private void comeBack(int[] result) {
            for (int i = 0; i < Secret.SIZE; i++) {
                result[i] = 0;
            }
            result[Secret.SIZE] = wheel[Ring.SIZE];
            for (int i = 0; i < Ring.SIZE; i++) {
                int mask = Ring.turned(i, 0, wheel, 0);
                for (int which = 0; which < Digits.COUNT; which++) {
                    subtract(Digits.digit(mask, which), wayBack[i * Digits.COUNT + which], result);
                }
            }
        }

        private static void subtract(int times, int[] row, int[] result) {
            for (int i = 0; i < Secret.ROW; i++) {
                result[i] -= times * row[i];
            }
        }
    }
}
