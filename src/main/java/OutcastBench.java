import java.util.Arrays;

/**
 * A memory behind a small cache, and a bench beside the cache for the lines that were thrown out
 * of it. What is read is always what was written last; where it lies only changes what is counted.
 */
public final class OutcastBench {
    private static final int WORDS = 1024;
    private static final int WORDS_IN_LINE = 4;
    private static final int LINES = WORDS / WORDS_IN_LINE;

    private static final int FIRST_SETS = 4;
    private static final int FIRST_PLACES = 2;
    private static final int MOST_SETS = 16;
    private static final int MOST_PLACES = 8;

    private static final int LONGEST_STEP = 64;
    private static final int LONGEST_WALK = 100;
    private static final int LAST_ACCESSES = 150;

    private static final int COST_OF_HIT = 1;
    private static final int COST_OF_SWAP = 3;
    private static final int COST_OF_MISS = 20;
    private static final int COST_OF_HOMECOMING = 10;

    private static final int IN_MEMORY = 0;
    private static final int IN_CACHE = 1;
    private static final int ON_BENCH = 2;

    /** Stands for a line where there is none. */
    private static final int NONE = -1;

    /** Every word as the program reads it. */
    private final int[] written;

    /**
     * The memory's words of the dirty lines. A line that is not dirty has the same words in the
     * memory as the program reads, so these are kept only from its first write on, and no words
     * need to be moved when it comes home.
     */
    private final int[] home;

    private final CacheAndBench actual;

    /** Made once and used again by every trial, because what a call makes stays in the room. */
    private final CacheAndBench trial;

    private final LastAccesses last;

    public OutcastBench() {
        written = new int[WORDS];
        home = new int[WORDS];
        actual = new CacheAndBench(FIRST_SETS, FIRST_PLACES);
        trial = new CacheAndBench(FIRST_SETS, FIRST_PLACES);
        last = new LastAccesses();
    }

    // ---- a program's accesses

    public int read(int address) throws IndexOutOfBoundsException {
        requireWord(address);
        ask(lineOf(address), false);
        return written[address];
    }

    public int write(int address, int value) throws IndexOutOfBoundsException {
        requireWord(address);
        int line = lineOf(address);
        if (!actual.dirtyLines[line]) {
            keepHomeWords(line);
        }
        ask(line, true);
        int before = written[address];
        written[address] = value;
        return before;
    }

    public int walk(int from, int step, int count)
            throws IndexOutOfBoundsException, IllegalArgumentException {
        requireWord(from);
        if (step < -LONGEST_STEP || step > LONGEST_STEP || count < 1 || count > LONGEST_WALK) {
            throw new IllegalArgumentException("no such walk");
        }
        int costBefore = actual.costSoFar;
        int address = from;
        for (int k = 0; k < count; k++) {
            ask(lineOf(address), false);
            address = Math.floorMod(address + step, WORDS);
        }
        return actual.costSoFar - costBefore;
    }

    // ---- care

    public int bringHome() {
        return actual.bringAllHome();
    }

    public int build(int sets, int places) throws IllegalArgumentException {
        requireSize(sets, places);
        int forgotten = actual.countLines();
        actual.bringAllHome();
        actual.startEmpty(sets, places);
        return forgotten;
    }

    public int cast(int set) throws IndexOutOfBoundsException, IllegalStateException {
        requireSet(set);
        int line = actual.lines[set];
        if (line == NONE) {
            throw new IllegalStateException("the set is empty");
        }
        actual.throwOut(set);
        return line;
    }

    // ---- how it stands

    public int sets() {
        return actual.setCount;
    }

    public int places() {
        return actual.placeCount;
    }

    public int lineIn(int set) throws IndexOutOfBoundsException {
        requireSet(set);
        return actual.lines[set];
    }

    public int sitting() {
        return actual.seated;
    }

    public int lineOnBench(int age) throws IndexOutOfBoundsException {
        if (age < 0 || age >= actual.seated) {
            throw new IndexOutOfBoundsException("no line of that age on the bench");
        }
        return actual.bench[actual.seated - 1 - age];
    }

    public int placeOf(int line) throws IndexOutOfBoundsException {
        requireLine(line);
        return actual.whereIs(line);
    }

    public boolean isDirty(int line) throws IndexOutOfBoundsException {
        requireLine(line);
        return actual.dirtyLines[line];
    }

    public int dirty() {
        return actual.countDirty();
    }

    public int atHome(int address) throws IndexOutOfBoundsException {
        requireWord(address);
        return actual.dirtyLines[lineOf(address)] ? home[address] : written[address];
    }

    public int peek(int address) throws IndexOutOfBoundsException {
        requireWord(address);
        return written[address];
    }

    // ---- work

    public int hits() {
        return actual.hitCount;
    }

    public int swaps() {
        return actual.swapCount;
    }

    public int misses() {
        return actual.missCount;
    }

    public int homecomings() {
        return actual.homecomingCount;
    }

    public int cost() {
        return actual.costSoFar;
    }

    public int wouldCost(int sets, int places) throws IllegalArgumentException {
        requireSize(sets, places);
        return costOfTrial(sets, places);
    }

    public int bestPlaces() {
        int best = 0;
        int leastCost = costOfTrial(actual.setCount, 0);
        for (int places = 1; places <= MOST_PLACES; places++) {
            int cost = costOfTrial(actual.setCount, places);
            if (cost < leastCost) {
                best = places;
                leastCost = cost;
            }
        }
        return best;
    }

    // ---- behind the calls

    private void ask(int line, boolean writes) {
        actual.access(line, writes);
        last.add(line, writes);
    }

    private void keepHomeWords(int line) {
        int first = line * WORDS_IN_LINE;
        System.arraycopy(written, first, home, first, WORDS_IN_LINE);
    }

    private int costOfTrial(int sets, int places) {
        trial.startEmpty(sets, places);
        int costBefore = trial.costSoFar;
        for (int k = 0; k < last.count; k++) {
            int slot = last.slotOf(k);
            trial.access(last.lines[slot], last.writes[slot]);
        }
        return trial.costSoFar - costBefore;
    }

    private static int lineOf(int address) {
        return address / WORDS_IN_LINE;
    }

    private static void requireWord(int address) {
        if (address < 0 || address >= WORDS) {
            throw new IndexOutOfBoundsException("no such word");
        }
    }

    private static void requireLine(int line) {
        if (line < 0 || line >= LINES) {
            throw new IndexOutOfBoundsException("no such line");
        }
    }

    private void requireSet(int set) {
        if (set < 0 || set >= actual.setCount) {
            throw new IndexOutOfBoundsException("no such set");
        }
    }

    private static void requireSize(int sets, int places) {
        boolean setsFit = sets == 1 || sets == 2 || sets == 4 || sets == 8 || sets == MOST_SETS;
        if (!setsFit || places < 0 || places > MOST_PLACES) {
            throw new IllegalArgumentException("no such size");
        }
    }

    /** Which lines are in a cache and on its bench, which of them are dirty, and all that is counted. */
    private static final class CacheAndBench {
        int setCount;
        int placeCount;

        /** The line in each set, or NONE. */
        final int[] lines = new int[MOST_SETS];

        /** The lines on the bench, the oldest first; only the first ones, as many as are seated. */
        final int[] bench = new int[MOST_PLACES];
        int seated;

        /** By the line's number; a line that is only in the memory is never dirty. */
        final boolean[] dirtyLines = new boolean[LINES];

        int hitCount;
        int swapCount;
        int missCount;
        int homecomingCount;
        int costSoFar;

        CacheAndBench(int sets, int places) {
            startEmpty(sets, places);
        }

        /** Forgets all lines, the dirty ones too; what was counted stays. */
        void startEmpty(int sets, int places) {
            setCount = sets;
            placeCount = places;
            Arrays.fill(lines, NONE);
            seated = 0;
            for (int line = 0; line < LINES; line++) {
                dirtyLines[line] = false;
            }
        }

        void access(int line, boolean writes) {
            int set = setOf(line);
            if (lines[set] == line) {
                hitCount++;
                costSoFar += COST_OF_HIT;
            } else {
                int seat = seatOf(line);
                if (seat == NONE) {
                    missCount++;
                    costSoFar += COST_OF_MISS;
                } else {
                    swapCount++;
                    costSoFar += COST_OF_SWAP;
                    // Ahead of the throw, so that the thrown line finds this place free.
                    leaveBench(seat);
                }
                throwOut(set);
                lines[set] = line;
            }
            if (writes) {
                dirtyLines[line] = true;
            }
        }

        /** Empties a set; nothing happens if it is empty already. */
        void throwOut(int set) {
            int line = lines[set];
            if (line == NONE) {
                return;
            }
            lines[set] = NONE;
            if (placeCount == 0) {
                bringHomeIfDirty(line);
                return;
            }
            if (seated >= placeCount) {
                bringHomeIfDirty(bench[0]);
                leaveBench(0);
            }
            bench[seated] = line;
            seated++;
        }

        private void leaveBench(int seat) {
            seated--;
            for (int k = seat; k < seated; k++) {
                bench[k] = bench[k + 1];
            }
        }

        int bringAllHome() {
            int before = homecomingCount;
            for (int set = 0; set < setCount; set++) {
                if (lines[set] != NONE) {
                    bringHomeIfDirty(lines[set]);
                }
            }
            for (int seat = 0; seat < seated; seat++) {
                bringHomeIfDirty(bench[seat]);
            }
            return homecomingCount - before;
        }

        private void bringHomeIfDirty(int line) {
            if (dirtyLines[line]) {
                dirtyLines[line] = false;
                homecomingCount++;
                costSoFar += COST_OF_HOMECOMING;
            }
        }

        int countLines() {
            int count = seated;
            for (int set = 0; set < setCount; set++) {
                if (lines[set] != NONE) {
                    count++;
                }
            }
            return count;
        }

        int countDirty() {
            int count = 0;
            for (int line = 0; line < LINES; line++) {
                if (dirtyLines[line]) {
                    count++;
                }
            }
            return count;
        }

        int whereIs(int line) {
            if (lines[setOf(line)] == line) {
                return IN_CACHE;
            }
            return seatOf(line) == NONE ? IN_MEMORY : ON_BENCH;
        }

        private int setOf(int line) {
            // The sets are a power of two, so the mask is the modulo, without a division.
            return line & (setCount - 1);
        }

        private int seatOf(int line) {
            for (int seat = 0; seat < seated; seat++) {
                if (bench[seat] == line) {
                    return seat;
                }
            }
            return NONE;
        }
    }

    /** A ring of the last accesses: the line of each, and whether it wrote. */
    private static final class LastAccesses {
        final int[] lines = new int[LAST_ACCESSES];
        final boolean[] writes = new boolean[LAST_ACCESSES];
        int count;
        private int next;

        void add(int line, boolean wrote) {
            lines[next] = line;
            writes[next] = wrote;
            next = next + 1 < LAST_ACCESSES ? next + 1 : 0;
            if (count < LAST_ACCESSES) {
                count++;
            }
        }

        /** Where the k-th access stands, from 0 for the oldest. */
        int slotOf(int k) {
            int oldest = count < LAST_ACCESSES ? 0 : next;
            return (oldest + k) % LAST_ACCESSES;
        }
    }
}
