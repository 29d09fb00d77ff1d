import java.util.Arrays;

/**
 * A laboratory for Toeplitz systems: integer matrices with constant diagonals are eliminated modulo a
 * prime with jumps over singular blocks, their Schur complements are described by generators of small
 * rank, solutions modulo the prime are refined digit by digit, and exact fractions are found and checked;
 * products are made by embedding into a circulant matrix.
 */
public final class ToeplitzLab {
    public static final int NONE = -1;

    private static final int MOST_ROWS = 7;
    private static final int MOST_BYTES = 700;
    private static final int MOST_CHANGES = 8;
    private static final int SLOTS = 2;
    private static final int MOST_VALUE = 50;
    private static final int MOST_PART = 999;
    private static final int MOST_REFINE = 40;
    private static final int MOST_ENTRIES = 30;
    private static final int ENTRY_WIDTH = 3;
    private static final long MOST_POWER = 1000000000000L;
    private static final int[] PRIMES = {2, 3, 5, 7, 11, 13, 17, 19, 23, 29, 31};

    private final Input input = new Input();
    private final State state = new State();
    /** Takes what is only tried and is not to touch the state. */
    private final State draft = new State();
    private final History history = new History();
    private final State[] slots = new State[SLOTS];
    private final boolean[] slotUsed = new boolean[SLOTS];
    private final Grid grid = new Grid();
    private final Pairs pairs = new Pairs();
    private final Fractions fractions = new Fractions();
    private final Lifter lifter = new Lifter();
    /** The regular sizes of the latest findSteps. */
    private final int[] ends = new int[MOST_ROWS + 1];

    public ToeplitzLab() {
    }

    // ---- input

    public int append(int a, int b, int c, int d, int e) {
        if (input.filled > MOST_BYTES - 20) {
            return NONE;
        }
        input.putWord(a);
        input.putWord(b);
        input.putWord(c);
        input.putWord(d);
        input.putWord(e);
        return input.filled;
    }

    public int load(int n) throws IndexOutOfBoundsException, IllegalArgumentException {
        if (n < 0 || n > input.filled) {
            throw new IndexOutOfBoundsException("there are not so many bytes");
        }
        if (!input.parse(n)) {
            throw new IllegalArgumentException("the text has an error");
        }
        state.become(input.system);
        history.forget();
        for (int slot = 0; slot < SLOTS; slot++) {
            slotUsed[slot] = false;
        }
        return state.order;
    }

    public int parseError() {
        return input.code;
    }

    public int errorPosition() {
        return input.code == 0 ? NONE : input.start;
    }

    public int buffered() {
        return input.filled;
    }

    // ---- the system

    public int size() {
        return state.order;
    }

    public int prime() {
        return state.modulus;
    }

    public int diagonal(int k) throws IllegalStateException, IndexOutOfBoundsException {
        requireSystem();
        requireDiagonal(k);
        return state.along(k);
    }

    public int entry(int i, int j) throws IllegalStateException, IndexOutOfBoundsException {
        requireSystem();
        requireRow(i);
        requireRow(j);
        return state.along(i - j);
    }

    public int side(int i) throws IllegalStateException, IndexOutOfBoundsException {
        requireSystem();
        requireRow(i);
        return state.sides[i];
    }

    public int probe(int i) throws IllegalStateException, IndexOutOfBoundsException {
        requireSystem();
        requireRow(i);
        return state.probes[i];
    }

    // ---- minors and steps

    public int minor(int k) throws IllegalStateException, IndexOutOfBoundsException {
        requireSystem();
        requireSize(k);
        return leadingMinor(k, state.modulus);
    }

    public int rank() throws IllegalStateException {
        requireSystem();
        grid.take(state, state.order, state.modulus, 0);
        return grid.eliminate(state.order);
    }

    public boolean isRegular() throws IllegalStateException {
        requireSystem();
        return leadingMinor(state.order, state.modulus) != 0;
    }

    public int steps() throws IllegalStateException {
        requireSystem();
        return findSteps();
    }

    public int stepEnd(int step) throws IllegalStateException, IndexOutOfBoundsException {
        requireSystem();
        return startBehind(step);
    }

    public int longestJump() throws IllegalStateException {
        requireSystem();
        int last = findSteps();
        int longest = 0;
        for (int step = 1; step <= last; step++) {
            longest = Math.max(longest, ends[step] - ends[step - 1]);
        }
        return longest;
    }

    public int tail() throws IllegalStateException {
        requireSystem();
        return state.order - ends[findSteps()];
    }

    public int regularPrimes() throws IllegalStateException {
        requireSystem();
        int set = 0;
        for (int k = 0; k < PRIMES.length; k++) {
            if (leadingMinor(state.order, PRIMES[k]) != 0) {
                set |= 1 << k;
            }
        }
        return set;
    }

    public int minorIf(int k, int value, int size)
            throws IllegalStateException, IndexOutOfBoundsException, IllegalArgumentException {
        requireSystem();
        requireDiagonal(k);
        requireSize(size);
        requireWithin(value, MOST_VALUE);
        draft.become(state);
        draft.putAlong(k, value);
        grid.take(draft, size, draft.modulus, 0);
        grid.eliminate(size);
        return grid.determinant();
    }

    // ---- Schur complements and generators

    public int schur(int step, int i, int j) throws IllegalStateException, IndexOutOfBoundsException {
        requireSystem();
        int first = startBehind(step);
        requireBehind(first, i);
        requireBehind(first, j);
        complementBehind(first);
        return grid.at(i, j);
    }

    public int displacement(int step, int i, int j) throws IllegalStateException, IndexOutOfBoundsException {
        requireSystem();
        int first = startBehind(step);
        requireBehind(first, i);
        requireBehind(first, j);
        complementBehind(first);
        grid.displace(first);
        return grid.at(i, j);
    }

    public int generators(int step) throws IllegalStateException, IndexOutOfBoundsException {
        requireSystem();
        return pairsBehind(startBehind(step));
    }

    public int generator(int step, int pair, int i, boolean right)
            throws IllegalStateException, IndexOutOfBoundsException {
        requireSystem();
        int first = startBehind(step);
        requireBehind(first, i);
        if (pair < 0 || pair >= pairsBehind(first)) {
            throw new IndexOutOfBoundsException("there is no such pair");
        }
        return pairs.component(pair, i, right);
    }

    public int mostGenerators() throws IllegalStateException {
        requireSystem();
        int last = findSteps();
        int most = 0;
        for (int step = 0; step <= last; step++) {
            most = Math.max(most, pairsBehind(ends[step]));
        }
        return most;
    }

    // ---- solutions modulo PRIME

    public int solution(int i) throws IllegalStateException, IndexOutOfBoundsException, IllegalArgumentException {
        requireSystem();
        requireRow(i);
        if (eliminateWithSides() < state.order) {
            throw new IllegalArgumentException("the matrix is not regular");
        }
        return grid.at(i, state.order);
    }

    public int inverse(int i, int j)
            throws IllegalStateException, IndexOutOfBoundsException, IllegalArgumentException {
        requireSystem();
        requireRow(i);
        requireRow(j);
        requireLifter();
        return lifter.ofInverse(i, j);
    }

    public int kernel(int i) throws IllegalStateException, IndexOutOfBoundsException, IllegalArgumentException {
        requireSystem();
        requireRow(i);
        int order = state.order;
        grid.take(state, order, state.modulus, 0);
        if (grid.eliminate(order) == order) {
            throw new IllegalArgumentException("the matrix is regular");
        }
        return grid.ofKernel(i);
    }

    public boolean isSolvable() throws IllegalStateException {
        requireSystem();
        int found = eliminateWithSides();
        for (int i = found; i < state.order; i++) {
            if (grid.at(i, state.order) != 0) {
                return false;
            }
        }
        return true;
    }

    // ---- refinement and fractions

    public int digits() throws IllegalStateException {
        requireSystem();
        return state.digitCount;
    }

    public int mostDigits() throws IllegalStateException {
        requireSystem();
        return state.digitLimit();
    }

    public int digit(int k, int i) throws IllegalStateException, IndexOutOfBoundsException {
        requireSystem();
        requireRow(i);
        if (k < 0 || k >= state.digitCount) {
            throw new IndexOutOfBoundsException("there is no such digit");
        }
        return state.digitOf(k, i);
    }

    public int residual(int i) throws IllegalStateException, IndexOutOfBoundsException {
        requireSystem();
        requireRow(i);
        return state.rests[i];
    }

    public long value(int i) throws IllegalStateException, IndexOutOfBoundsException {
        requireSystem();
        requireRow(i);
        return state.sums[i];
    }

    public long centred(int i) throws IllegalStateException, IndexOutOfBoundsException {
        requireSystem();
        requireRow(i);
        long sum = state.sums[i];
        return 2 * sum > state.power ? sum - state.power : sum;
    }

    public int numerator(int i) throws IllegalStateException, IndexOutOfBoundsException, IllegalArgumentException {
        requireSystem();
        requireRow(i);
        requireFraction(i);
        return (int) fractions.tops[i];
    }

    public int denominator(int i) throws IllegalStateException, IndexOutOfBoundsException {
        requireSystem();
        requireRow(i);
        return fractions.find(state, i) ? (int) fractions.bottoms[i] : 0;
    }

    public double quotient(int i)
            throws IllegalStateException, IndexOutOfBoundsException, IllegalArgumentException {
        requireSystem();
        requireRow(i);
        requireFraction(i);
        return (double) fractions.tops[i] / (double) fractions.bottoms[i];
    }

    public boolean isExact() throws IllegalStateException {
        requireSystem();
        return fractions.solve(state);
    }

    public int liftsTo() throws IllegalStateException {
        requireSystem();
        if (fractions.solve(state)) {
            return 0;
        }
        if (!lifter.prepare(state)) {
            return NONE;
        }
        draft.become(state);
        int most = draft.digitLimit() - draft.digitCount;
        for (int lifts = 1; lifts <= most; lifts++) {
            lifter.addDigit(draft);
            if (fractions.solve(draft)) {
                return lifts;
            }
        }
        return NONE;
    }

    // ---- products

    public int product(int i) throws IllegalStateException, IndexOutOfBoundsException {
        requireSystem();
        requireRow(i);
        return timesProbe(i);
    }

    public int circulant(int i, int j) throws IllegalStateException, IndexOutOfBoundsException {
        requireSystem();
        requireWrappedRow(i);
        requireWrappedRow(j);
        return aroundCircle(i - j);
    }

    public int wrapped(int i) throws IllegalStateException, IndexOutOfBoundsException {
        requireSystem();
        requireWrappedRow(i);
        int sum = 0;
        for (int j = 0; j < state.order; j++) {
            sum += aroundCircle(i - j) * state.probes[j];
        }
        return sum;
    }

    public boolean probeSolves() throws IllegalStateException {
        requireSystem();
        for (int i = 0; i < state.order; i++) {
            if (timesProbe(i) != state.sides[i]) {
                return false;
            }
        }
        return true;
    }

    // ---- the account

    public int entries() {
        return state.entryCount;
    }

    public int accountOf(int k, int what)
            throws IllegalStateException, IndexOutOfBoundsException, IllegalArgumentException {
        requireSystem();
        if (k < 0 || k >= state.entryCount) {
            throw new IndexOutOfBoundsException("there is no such entry");
        }
        if (what < 0 || what >= ENTRY_WIDTH) {
            throw new IllegalArgumentException("there is no such property");
        }
        return state.account[ENTRY_WIDTH * k + what];
    }

    // ---- changes

    public int setDiagonal(int k, int value)
            throws IllegalStateException, IndexOutOfBoundsException, IllegalArgumentException {
        requireSystem();
        requireDiagonal(k);
        requireWithin(value, MOST_VALUE);
        int previous = state.along(k);
        history.remember(state);
        state.putAlong(k, value);
        state.beginRefinement();
        return previous;
    }

    public int setSide(int i, int value)
            throws IllegalStateException, IndexOutOfBoundsException, IllegalArgumentException {
        requireSystem();
        requireRow(i);
        requireWithin(value, MOST_PART);
        int previous = state.sides[i];
        history.remember(state);
        state.sides[i] = value;
        state.beginRefinement();
        return previous;
    }

    public int setProbe(int i, int value)
            throws IllegalStateException, IndexOutOfBoundsException, IllegalArgumentException {
        requireSystem();
        requireRow(i);
        requireWithin(value, MOST_PART);
        int previous = state.probes[i];
        history.remember(state);
        state.probes[i] = value;
        return previous;
    }

    public int setPrime(int prime) throws IllegalStateException, IllegalArgumentException {
        requireSystem();
        if (!isListed(prime)) {
            throw new IllegalArgumentException("this is none of the primes");
        }
        int previous = state.modulus;
        history.remember(state);
        state.modulus = prime;
        state.beginRefinement();
        return previous;
    }

    public int grow(int below, int above, int part) throws IllegalStateException, IllegalArgumentException {
        requireSystem();
        int last = state.order;
        if (last >= MOST_ROWS) {
            throw new IllegalArgumentException("the system has its greatest size");
        }
        requireWithin(below, MOST_VALUE);
        requireWithin(above, MOST_VALUE);
        requireWithin(part, MOST_PART);
        history.remember(state);
        state.order = last + 1;
        state.putAlong(last, below);
        state.putAlong(-last, above);
        state.sides[last] = part;
        state.probes[last] = 0;
        state.beginRefinement();
        return state.order;
    }

    public int shrink() throws IllegalStateException, IllegalArgumentException {
        requireSystem();
        if (state.order == 1) {
            throw new IllegalArgumentException("the system has its smallest size");
        }
        history.remember(state);
        state.order--;
        state.beginRefinement();
        return state.order;
    }

    public int lift() throws IllegalStateException, IllegalArgumentException {
        requireSystem();
        requireLifter();
        if (state.digitCount >= state.digitLimit()) {
            throw new IllegalArgumentException("there is no room for a digit");
        }
        history.remember(state);
        lifter.liftAndEnter(state, fractions);
        return state.digitCount;
    }

    public int refine(int most) throws IllegalStateException, IllegalArgumentException {
        requireSystem();
        if (most < 1 || most > MOST_REFINE) {
            throw new IllegalArgumentException("the number of lifts is out of its range");
        }
        requireLifter();
        history.remember(state);
        int room = Math.min(most, state.digitLimit() - state.digitCount);
        boolean exact = fractions.solve(state);
        int lifts = 0;
        for (; lifts < room && !exact; lifts++) {
            exact = lifter.liftAndEnter(state, fractions);
        }
        return lifts;
    }

    public int undo() throws IllegalStateException {
        State before = history.takeLatest();
        if (before == null) {
            throw new IllegalStateException("there is nothing to undo");
        }
        state.become(before);
        return history.count;
    }

    public int undoable() {
        return history.count;
    }

    // ---- save and restore

    public int save(int slot) throws IllegalStateException, IndexOutOfBoundsException {
        requireSystem();
        requireSlot(slot);
        if (slots[slot] == null) {
            slots[slot] = new State();
        }
        slots[slot].become(state);
        slotUsed[slot] = true;
        return state.order;
    }

    public int restore(int slot) throws IndexOutOfBoundsException, IllegalStateException {
        requireSlot(slot);
        State saved = slots[slot];
        if (saved == null || !slotUsed[slot]) {
            throw new IllegalStateException("nothing is saved there");
        }
        state.become(saved);
        history.forget();
        return state.order;
    }

    // ---- what the arguments have to be

    private void requireSystem() {
        if (state.order == 0) {
            throw new IllegalStateException("there is no system");
        }
    }

    private void requireRow(int i) {
        if (i < 0 || i >= state.order) {
            throw new IndexOutOfBoundsException("there is no such row or column");
        }
    }

    private void requireBehind(int first, int i) {
        if (i < first || i >= state.order) {
            throw new IndexOutOfBoundsException("there is no such row or column behind the step");
        }
    }

    private void requireWrappedRow(int i) {
        if (i < 0 || i >= 2 * state.order) {
            throw new IndexOutOfBoundsException("there is no such row or column of the circulant");
        }
    }

    private void requireDiagonal(int k) {
        if (k <= -state.order || k >= state.order) {
            throw new IndexOutOfBoundsException("there is no such diagonal");
        }
    }

    private void requireSize(int k) {
        if (k < 0 || k > state.order) {
            throw new IndexOutOfBoundsException("there is no such size");
        }
    }

    private static void requireSlot(int slot) {
        if (slot < 0 || slot >= SLOTS) {
            throw new IndexOutOfBoundsException("there is no such slot");
        }
    }

    private static void requireWithin(int number, int most) {
        if (number < -most || number > most) {
            throw new IllegalArgumentException("a number is out of its range");
        }
    }

    private void requireFraction(int i) {
        if (!fractions.find(state, i)) {
            throw new IllegalArgumentException("there is no fraction");
        }
    }

    /** Leaves the lifter ready for T. */
    private void requireLifter() {
        if (!lifter.prepare(state)) {
            throw new IllegalArgumentException("the matrix is not regular");
        }
    }

    // ---- what several methods ask

    private static boolean isListed(int number) {
        for (int prime : PRIMES) {
            if (prime == number) {
                return true;
            }
        }
        return false;
    }

    /** The representative from 0 to modulus - 1; 0 where there is no modulus. */
    private static int reduced(int number, int modulus) {
        return modulus < 1 ? 0 : Math.floorMod(number, modulus);
    }

    private int leadingMinor(int size, int modulus) {
        grid.take(state, size, modulus, 0);
        grid.eliminate(size);
        return grid.determinant();
    }

    /** Puts the regular sizes into ends and returns the number of the last step. */
    private int findSteps() {
        int last = 0;
        ends[0] = 0;
        for (int size = 1; size <= state.order && last + 1 < ends.length; size++) {
            if (leadingMinor(size, state.modulus) != 0) {
                last++;
                ends[last] = size;
            }
        }
        return last;
    }

    /** The first row of the Schur complement behind a step. */
    private int startBehind(int step) {
        int last = findSteps();
        if (step < 0 || step > last) {
            throw new IndexOutOfBoundsException("there is no such step");
        }
        return ends[step];
    }

    /** Leaves the Schur complement in the grid, in the rows and columns from first on. */
    private void complementBehind(int first) {
        grid.take(state, state.order, state.modulus, 0);
        grid.eliminate(first);
    }

    private int pairsBehind(int first) {
        complementBehind(first);
        grid.displace(first);
        return pairs.find(grid, first);
    }

    /** Eliminates T with b as one more column; returns the rank of T. */
    private int eliminateWithSides() {
        int order = state.order;
        grid.take(state, order, state.modulus, 1);
        for (int i = 0; i < order; i++) {
            grid.put(i, order, state.sides[i]);
        }
        return grid.eliminate(order);
    }

    private int timesProbe(int i) {
        int sum = 0;
        for (int j = 0; j < state.order; j++) {
            sum += state.along(i - j) * state.probes[j];
        }
        return sum;
    }

    /** The entry of the circulant that stands so many rows below the main diagonal. */
    private int aroundCircle(int below) {
        int order = state.order;
        int place = reduced(below, 2 * order);
        if (place == order) {
            return 0;
        }
        return state.along(place < order ? place : place - 2 * order);
    }

    /** All that a change can alter, so that a copy of it is enough to undo or restore. */
    private static final class State {
        int order;
        int modulus;
        private final int[] diagonals = new int[2 * MOST_ROWS - 1];
        final int[] sides = new int[MOST_ROWS];
        final int[] probes = new int[MOST_ROWS];
        int digitCount;
        /** The modulus to the power of digitCount. */
        long power = 1;
        final long[] sums = new long[MOST_ROWS];
        final int[] rests = new int[MOST_ROWS];
        int entryCount;
        final int[] account = new int[MOST_ENTRIES * ENTRY_WIDTH];

        void clear() {
            order = 0;
            modulus = 0;
            Arrays.fill(diagonals, 0);
            Arrays.fill(sides, 0);
            Arrays.fill(probes, 0);
            entryCount = 0;
            beginRefinement();
        }

        void become(State other) {
            order = other.order;
            modulus = other.modulus;
            System.arraycopy(other.diagonals, 0, diagonals, 0, diagonals.length);
            System.arraycopy(other.sides, 0, sides, 0, sides.length);
            System.arraycopy(other.probes, 0, probes, 0, probes.length);
            digitCount = other.digitCount;
            power = other.power;
            System.arraycopy(other.sums, 0, sums, 0, sums.length);
            System.arraycopy(other.rests, 0, rests, 0, rests.length);
            entryCount = other.entryCount;
            System.arraycopy(other.account, 0, account, 0, account.length);
        }

        /** The value of a diagonal. */
        int along(int k) {
            int place = k + MOST_ROWS - 1;
            return place >= 0 && place < diagonals.length ? diagonals[place] : 0;
        }

        void putAlong(int k, int number) {
            int place = k + MOST_ROWS - 1;
            if (place >= 0 && place < diagonals.length) {
                diagonals[place] = number;
            }
        }

        void beginRefinement() {
            digitCount = 0;
            power = 1;
            Arrays.fill(sums, 0L);
            System.arraycopy(sides, 0, rests, 0, rests.length);
        }

        int digitLimit() {
            int limit = 0;
            long reached = modulus;
            while (limit < 64 && reached > 1 && reached <= MOST_POWER) {
                limit++;
                reached *= modulus;
            }
            return limit;
        }

        /** The digits are not kept: they are those of X in the base of the prime. */
        int digitOf(int k, int i) {
            if (modulus < 1 || i < 0 || i >= sums.length) {
                return 0;
            }
            long shifted = sums[i];
            for (int down = 0; down < k; down++) {
                shifted /= modulus;
            }
            return (int) (shifted % modulus);
        }

        void enter(boolean exact) {
            if (entryCount >= MOST_ENTRIES) {
                return;
            }
            int greatest = 0;
            for (int i = 0; i < order && i < rests.length; i++) {
                greatest = Math.max(greatest, Math.abs(rests[i]));
            }
            int place = ENTRY_WIDTH * entryCount;
            account[place] = digitCount;
            account[place + 1] = greatest;
            account[place + 2] = exact ? 1 : 0;
            entryCount++;
        }
    }

    /** A matrix modulo a prime with room for as many columns again; every question uses the same one. */
    private static final class Grid {
        private final int[][] cells = new int[MOST_ROWS][2 * MOST_ROWS];
        private int rows;
        private int columns;
        private int modulus;
        private int determinant;
        /** The first column without a pivot in the latest elimination. */
        private int firstFree;

        /** Takes the first rows and columns of T and adds some columns of zeros. */
        void take(State source, int size, int prime, int more) {
            rows = Math.max(0, Math.min(size, MOST_ROWS));
            columns = Math.max(rows, Math.min(rows + more, 2 * MOST_ROWS));
            modulus = prime;
            for (int i = 0; i < rows; i++) {
                for (int j = 0; j < columns; j++) {
                    cells[i][j] = j < rows ? reduced(source.along(i - j), prime) : 0;
                }
            }
        }

        int height() {
            return rows;
        }

        int at(int i, int j) {
            return i >= 0 && i < rows && j >= 0 && j < columns ? cells[i][j] : 0;
        }

        void put(int i, int j, int number) {
            if (i >= 0 && i < rows && j >= 0 && j < columns) {
                cells[i][j] = reduced(number, modulus);
            }
        }

        int determinant() {
            return determinant;
        }

        /**
         * Clears the first columns by pivots of the first rows, as many of these as of those, and returns
         * the number of pivots. The rows behind them give no pivot, so what stands in them behind a
         * regular block afterwards is its Schur complement.
         */
        int eliminate(int size) {
            int limit = Math.max(0, Math.min(size, rows));
            int found = 0;
            determinant = reduced(1, modulus);
            firstFree = limit;
            for (int column = 0; column < limit; column++) {
                int pivot = pivotRow(found, limit, column);
                if (pivot == NONE) {
                    firstFree = Math.min(firstFree, column);
                    determinant = 0;
                } else {
                    determinant = reduced(determinant * leadRow(pivot, found, column), modulus);
                    clearColumn(found, column);
                    found++;
                }
            }
            return found;
        }

        private int pivotRow(int from, int limit, int column) {
            for (int i = from; i < limit; i++) {
                if (cells[i][column] != 0) {
                    return i;
                }
            }
            return NONE;
        }

        /** Brings a row to its place and makes its pivot 1; returns the factor that it brings to the determinant. */
        private int leadRow(int pivot, int place, int column) {
            int lead = cells[pivot][column];
            int factor = inverseOf(lead);
            for (int j = 0; j < columns; j++) {
                int kept = cells[place][j];
                cells[place][j] = reduced(factor * cells[pivot][j], modulus);
                if (pivot != place) {
                    cells[pivot][j] = kept;
                }
            }
            return pivot == place ? lead : -lead;
        }

        private void clearColumn(int pivot, int column) {
            for (int i = 0; i < rows; i++) {
                int factor = cells[i][column];
                for (int j = 0; j < columns && i != pivot && factor != 0; j++) {
                    cells[i][j] = reduced(cells[i][j] - factor * cells[pivot][j], modulus);
                }
            }
        }

        /** The primes are so small that trying every number is the plainest way. */
        int inverseOf(int number) {
            for (int candidate = 1; candidate < modulus; candidate++) {
                if (candidate * number % modulus == 1) {
                    return candidate;
                }
            }
            return 0;
        }

        /** A component of the kernel vector; asked behind an elimination that left a column free. */
        int ofKernel(int i) {
            if (i == firstFree) {
                return 1;
            }
            // All columns before the first free one have their pivots in the rows of the same numbers.
            return i < firstFree ? reduced(-at(i, firstFree), modulus) : 0;
        }

        /** Replaces what stands in the rows and columns from first on by its displacement. */
        void displace(int first) {
            // From the last entry back, so that the entries above on the left are still the old ones.
            for (int i = rows - 1; i > first; i--) {
                for (int j = rows - 1; j > first; j--) {
                    put(i, j, at(i, j) - at(i - 1, j - 1));
                }
            }
        }
    }

    /** The generators of a displacement. */
    private static final class Pairs {
        private final int[][] lefts = new int[MOST_ROWS][MOST_ROWS];
        private final int[][] rights = new int[MOST_ROWS][MOST_ROWS];

        int component(int pair, int i, boolean right) {
            if (pair < 0 || pair >= MOST_ROWS || i < 0 || i >= MOST_ROWS) {
                return 0;
            }
            return right ? rights[pair][i] : lefts[pair][i];
        }

        /**
         * Takes the rows and columns of the grid from first on apart and returns the number of pairs.
         * Each pair lowers the rank by one, so there are no more pairs than rows. One pass over the
         * entries is enough: behind a pair all entries up to its own one are 0.
         */
        int find(Grid grid, int first) {
            int end = grid.height();
            int count = 0;
            for (int i = Math.max(0, first); i < end; i++) {
                for (int j = Math.max(0, first); j < end; j++) {
                    if (grid.at(i, j) != 0 && count < MOST_ROWS) {
                        keep(grid, first, count, i, j);
                        subtract(grid, first, count);
                        count++;
                    }
                }
            }
            return count;
        }

        private void keep(Grid grid, int first, int pair, int i, int j) {
            int divisor = grid.inverseOf(grid.at(i, j));
            for (int a = Math.max(0, first); a < grid.height(); a++) {
                lefts[pair][a] = reduced(grid.at(a, j) * divisor, grid.modulus);
                rights[pair][a] = grid.at(i, a);
            }
        }

        private void subtract(Grid grid, int first, int pair) {
            int end = grid.height();
            for (int a = Math.max(0, first); a < end; a++) {
                for (int c = Math.max(0, first); c < end; c++) {
                    grid.put(a, c, grid.at(a, c) - lefts[pair][a] * rights[pair][c]);
                }
            }
        }
    }

    /** Makes lifts. Its grid keeps the inverse, so that many lifts in a row need one elimination. */
    private static final class Lifter {
        private final Grid grid = new Grid();
        private final int[] fresh = new int[MOST_ROWS];

        /** Leaves the inverse in the grid, behind T; tells whether T is regular. */
        boolean prepare(State system) {
            int order = system.order;
            grid.take(system, order, system.modulus, order);
            for (int i = 0; i < order; i++) {
                grid.put(i, order + i, 1);
            }
            return grid.eliminate(order) == order;
        }

        int ofInverse(int i, int j) {
            return grid.at(i, grid.height() + j);
        }

        /** Adds a digit to a system whose T is the one that was prepared last. */
        void addDigit(State system) {
            int order = Math.min(system.order, fresh.length);
            for (int i = 0; i < order; i++) {
                int sum = 0;
                for (int j = 0; j < order; j++) {
                    sum += ofInverse(i, j) * reduced(system.rests[j], system.modulus);
                }
                fresh[i] = reduced(sum, system.modulus);
            }
            for (int i = 0; i < order; i++) {
                system.sums[i] += fresh[i] * system.power;
                system.rests[i] = nextRest(system, i);
            }
            system.power *= system.modulus;
            system.digitCount++;
        }

        private int nextRest(State system, int i) {
            int rest = system.rests[i];
            for (int j = 0; j < system.order && j < fresh.length; j++) {
                rest -= system.along(i - j) * fresh[j];
            }
            return system.modulus < 1 ? 0 : rest / system.modulus;
        }

        /** Adds a digit and its entry in the account; tells whether the fractions are exact then. */
        boolean liftAndEnter(State system, Fractions fractions) {
            addDigit(system);
            boolean exact = fractions.solve(system);
            system.enter(exact);
            return exact;
        }
    }

    /** The fractions of the components. */
    private static final class Fractions {
        private static final long MOST_MULTIPLE = 1000000000L;
        /** Its square doubled is beyond every M, and still far from the end of the long numbers. */
        private static final long LARGE = 1000000L;
        /** More than Euclid's algorithm needs for any long numbers. */
        private static final int MOST_ROUNDS = 100;

        final long[] tops = new long[MOST_ROWS];
        final long[] bottoms = new long[MOST_ROWS];

        /** Puts the fraction of a component into tops and bottoms; tells whether there is one. */
        boolean find(State system, int i) {
            if (system.digitCount == 0 || system.modulus < 1 || i < 0 || i >= MOST_ROWS) {
                return false;
            }
            long bound = system.power;
            long r = bound;
            long s = system.sums[i];
            long u = 0;
            long v = 1;
            for (int round = 0; round < MOST_ROUNDS && s != 0 && isLarge(s, bound); round++) {
                long q = r / s;
                long rest = r - q * s;
                r = s;
                s = rest;
                long next = u - q * v;
                u = v;
                v = next;
            }
            if (v == 0 || isLarge(v, bound) || v % system.modulus == 0) {
                return false;
            }
            long divisor = v < 0 ? -greatestDivisor(s, v) : greatestDivisor(s, v);
            if (divisor == 0) {
                return false;
            }
            tops[i] = s / divisor;
            bottoms[i] = v / divisor;
            return true;
        }

        /** Tells whether the fractions are exact. */
        boolean solve(State system) {
            long multiple = 1;
            for (int i = 0; i < system.order; i++) {
                if (!find(system, i)) {
                    return false;
                }
                multiple = commonMultiple(multiple, bottoms[i]);
                if (multiple < 1 || multiple > MOST_MULTIPLE) {
                    return false;
                }
            }
            for (int i = 0; i < system.order; i++) {
                if (rowTimes(system, i, multiple) != multiple * system.sides[i]) {
                    return false;
                }
            }
            return true;
        }

        /** A component of T times the vector of the fractions, times a multiple of all denominators. */
        private long rowTimes(State system, int i, long multiple) {
            long sum = 0;
            for (int j = 0; j < system.order && j < MOST_ROWS; j++) {
                if (bottoms[j] != 0) {
                    sum += system.along(i - j) * (multiple / bottoms[j]) * tops[j];
                }
            }
            return sum;
        }

        /** Tells whether 2 * number * number is greater than the bound. */
        private static boolean isLarge(long number, long bound) {
            long size = Math.abs(number);
            return size >= LARGE || 2 * size * size > bound;
        }

        private static long greatestDivisor(long a, long b) {
            long greater = Math.abs(a);
            long smaller = Math.abs(b);
            for (int round = 0; round < MOST_ROUNDS && smaller != 0; round++) {
                long rest = greater % smaller;
                greater = smaller;
                smaller = rest;
            }
            return greater;
        }

        private static long commonMultiple(long a, long b) {
            long divisor = greatestDivisor(a, b);
            return divisor == 0 ? 0 : a / divisor * b;
        }
    }

    /** The states before the latest changes. */
    private static final class History {
        private final State[] kept = new State[MOST_CHANGES];
        private int next;
        int count;

        void remember(State before) {
            if (next < 0 || next >= MOST_CHANGES) {
                next = 0;
            }
            if (kept[next] == null) {
                kept[next] = new State();
            }
            kept[next].become(before);
            next = (next + 1) % MOST_CHANGES;
            count = Math.min(count + 1, MOST_CHANGES);
        }

        /** The state before the latest change, which is forgotten; null if there is none. */
        State takeLatest() {
            if (count == 0) {
                return null;
            }
            next = (next + MOST_CHANGES - 1) % MOST_CHANGES;
            count--;
            return kept[next];
        }

        void forget() {
            count = 0;
        }
    }

    /** The input buffer, and what reads its text into a system. */
    private static final class Input {
        private static final int END = 0;
        private static final int WORD = 1;
        private static final int NUMBER = 2;
        private static final int MINUS = 3;
        private static final int SEMICOLON = 4;
        private static final int STRANGE = 5;
        private static final int MOST_LETTERS = 8;
        private static final int MOST_DECIMALS = 4;
        private static final int MOST_BANDS = 8;

        private final byte[] text = new byte[MOST_BYTES];
        int filled;
        final State system = new State();
        /** The error of the latest parse, which stopped at the token that begins at start. */
        int code;
        int start;
        private int length;
        private int kind;
        private int end;
        private int number;
        private int from;
        private int to;
        private int bands;
        private int toldDiagonals;
        private int toldRows;

        void putWord(int word) {
            for (int shift = 24; shift >= 0; shift -= 8) {
                if (filled >= 0 && filled < text.length) {
                    text[filled] = (byte) (word >> shift);
                    filled++;
                }
            }
        }

        /** Parses the first bytes and empties the buffer; tells whether they have no error. */
        boolean parse(int bytes) {
            length = Math.max(0, Math.min(bytes, filled));
            filled = 0;
            code = 0;
            end = 0;
            bands = 0;
            toldDiagonals = 0;
            toldRows = 0;
            system.clear();
            advance();
            if (!readHead()) {
                return false;
            }
            // Each line has bytes of its own, so that there are fewer lines than bytes.
            for (int lines = 0; lines < MOST_BYTES && kind == SEMICOLON; lines++) {
                advance();
                if (!readLine()) {
                    return false;
                }
            }
            system.beginRefinement();
            return kind == END || fail(1);
        }

        private boolean readHead() {
            if (!isWord("toeplitz")) {
                return fail(1);
            }
            advance();
            if (!reachNumber(1, MOST_ROWS, false)) {
                return false;
            }
            system.order = number;
            advance();
            if (!isWord("prime")) {
                return fail(1);
            }
            advance();
            if (kind != NUMBER) {
                return fail(1);
            }
            if (!isListed(number)) {
                return fail(2);
            }
            system.modulus = number;
            advance();
            return true;
        }

        private boolean readLine() {
            if (isWord("diagonal")) {
                return readRange(false) && readRangeValue();
            }
            if (isWord("band")) {
                bands++;
                if (bands > MOST_BANDS) {
                    return fail(4);
                }
                return readRange(true) && readRangeValue();
            }
            if (isWord("side")) {
                return readPart(system.sides, 1);
            }
            if (isWord("probe")) {
                return readPart(system.probes, 1 << MOST_ROWS);
            }
            return fail(1);
        }

        /** Reads the first word of a line and its diagonals; a line that is no band has one. */
        private boolean readRange(boolean band) {
            int outermost = system.order - 1;
            advance();
            if (!reachNumber(-outermost, outermost, true)) {
                return false;
            }
            from = number;
            if (band) {
                advance();
                if (!reachNumber(from, outermost, true)) {
                    return false;
                }
            }
            to = number;
            int range = 0;
            for (int k = from; k <= to; k++) {
                range |= 1 << (k + MOST_ROWS - 1);
            }
            if ((toldDiagonals & range) != 0) {
                return fail(3);
            }
            toldDiagonals |= range;
            advance();
            return true;
        }

        private boolean readRangeValue() {
            if (!reachNumber(-MOST_VALUE, MOST_VALUE, true)) {
                return false;
            }
            for (int k = from; k <= to; k++) {
                system.putAlong(k, number);
            }
            advance();
            return true;
        }

        /** Reads the first word of a line, a row and its part; the bit marks the row 0 as told. */
        private boolean readPart(int[] parts, int firstBit) {
            advance();
            if (!reachNumber(0, system.order - 1, false)) {
                return false;
            }
            int row = number;
            int bit = firstBit << row;
            if ((toldRows & bit) != 0) {
                return fail(3);
            }
            toldRows |= bit;
            advance();
            if (!reachNumber(-MOST_PART, MOST_PART, true)) {
                return false;
            }
            if (row >= 0 && row < parts.length) {
                parts[row] = number;
            }
            advance();
            return true;
        }

        /** Stays at the number, behind an optional sign, since the number may have other errors still. */
        private boolean reachNumber(int low, int high, boolean signed) {
            boolean negative = signed && kind == MINUS;
            if (negative) {
                advance();
            }
            if (kind != NUMBER) {
                return fail(1);
            }
            if (negative) {
                number = -number;
            }
            return number >= low && number <= high || fail(2);
        }

        private boolean isWord(String word) {
            if (kind != WORD || end - start != word.length()) {
                return false;
            }
            for (int k = 0; k < word.length(); k++) {
                if (byteAt(start + k) != word.charAt(k)) {
                    return false;
                }
            }
            return true;
        }

        /** Notes an error at the current token; false, so that it can be returned at once. */
        private boolean fail(int error) {
            code = error;
            return false;
        }

        /** Goes to the next token. */
        private void advance() {
            start = runEnd(end, ' ', ' ');
            int letters = runEnd(start, 'a', 'z');
            int decimals = runEnd(start, '0', '9');
            if (letters > start) {
                end = letters;
                kind = end - start > MOST_LETTERS ? STRANGE : WORD;
            } else if (decimals > start) {
                end = decimals;
                kind = end - start > MOST_DECIMALS ? STRANGE : NUMBER;
                number = readDecimals();
            } else if (start < length) {
                int sign = byteAt(start);
                end = start + 1;
                kind = sign == '-' ? MINUS : sign == ';' ? SEMICOLON : STRANGE;
            } else {
                end = start;
                kind = END;
            }
        }

        /** The place behind the signs from low to high that stand from a place on. */
        private int runEnd(int place, char low, char high) {
            int behind = place;
            while (behind < length && byteAt(behind) >= low && byteAt(behind) <= high) {
                behind++;
            }
            return behind;
        }

        private int readDecimals() {
            int read = 0;
            for (int k = start; k < end && k - start < MOST_DECIMALS; k++) {
                read = 10 * read + byteAt(k) - '0';
            }
            return read;
        }

        private int byteAt(int place) {
            return place >= 0 && place < text.length ? text[place] & 255 : NONE;
        }
    }
}
