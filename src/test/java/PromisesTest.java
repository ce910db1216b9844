import java.util.TreeSet;

/** For each promise of the document a test with answers worked out by hand. */
public final class PromisesTest {
    private static final String NO_INDEX = "throws.IndexOutOfBoundsException";
    private static final String NO_ARGUMENT = "throws.IllegalArgumentException";
    private static final String NO_STATE = "throws.IllegalStateException";
    private static final int LOW = Integer.MIN_VALUE;
    private static final int HIGH = Integer.MAX_VALUE;

    public static void main(String[] args) {
        newObject();
        read();
        write();
        walk();
        walkRefused();
        bringHome();
        build();
        buildRefused();
        cast();
        castOntoFullBench();
        castWithoutBench();
        sets();
        places();
        lineIn();
        sitting();
        lineOnBench();
        placeOf();
        isDirty();
        dirty();
        atHome();
        peek();
        hits();
        swaps();
        swapIntoEmptySet();
        misses();
        homecomings();
        cost();
        wouldCost();
        wouldCostForgetsOldAccesses();
        wouldCostCountsAccessesAlone();
        wouldCostRefused();
        bestPlaces();
        refusedCallsChangeNothing();
        Check.end("PromisesTest");
    }

    /** With one set and two places; the lines 0 to n - 1 were read, each by its first word. */
    private static OutcastBench oneSetAfter(int n) {
        OutcastBench x = new OutcastBench();
        x.build(1, 2);
        for (int line = 0; line < n; line++) {
            x.read(4 * line);
        }
        return x;
    }

    private static String bench(OutcastBench x) {
        StringBuilder text = new StringBuilder();
        int sitting = x.sitting();
        for (int age = 0; age < sitting; age++) {
            text.append(x.lineOnBench(age)).append(' ');
        }
        return text.toString().trim();
    }

    /** Sets, then bench from the youngest on, then the dirty lines and all counts. */
    private static String standing(OutcastBench x) {
        StringBuilder text = new StringBuilder();
        int sets = x.sets();
        for (int set = 0; set < sets; set++) {
            text.append(x.lineIn(set)).append(' ');
        }
        text.append("| ").append(bench(x)).append(" of ").append(x.places());
        text.append(" | dirty").append(dirtyLines(x));
        text.append(" | ").append(x.hits()).append(' ').append(x.swaps()).append(' ');
        text.append(x.misses()).append(' ').append(x.homecomings()).append(' ').append(x.cost());
        return text.toString();
    }

    /** Only the lines that are held are asked for, lest one look takes half of an object's calls. */
    private static String dirtyLines(OutcastBench x) {
        TreeSet<Integer> dirty = new TreeSet<>();
        int sets = x.sets();
        for (int set = 0; set < sets; set++) {
            int line = x.lineIn(set);
            if (line >= 0 && x.isDirty(line)) {
                dirty.add(line);
            }
        }
        int sitting = x.sitting();
        for (int age = 0; age < sitting; age++) {
            if (x.isDirty(x.lineOnBench(age))) {
                dirty.add(x.lineOnBench(age));
            }
        }
        StringBuilder text = new StringBuilder();
        for (int line : dirty) {
            text.append(' ').append(line);
        }
        return dirty.size() == x.dirty() ? text.toString() : text + " but dirty() is " + x.dirty();
    }

    private static void newObject() {
        OutcastBench x = new OutcastBench();
        Check.due("1 standing", "-1 -1 -1 -1 |  of 2 | dirty | 0 0 0 0 0", () -> standing(x));
        for (int address : new int[] {0, 3, 4, 511, 1023}) {
            Check.due("1 word " + address, 0, () -> x.peek(address));
            Check.due("1 word " + address + " at home", 0, () -> x.atHome(address));
        }
        Check.due("1 wouldCost(4, 2)", 0, () -> x.wouldCost(4, 2));
    }

    private static void read() {
        OutcastBench x = new OutcastBench();
        Check.due("2 read(0) of a new object", 0, () -> x.read(0));
        Check.due("2 read(1023) of a new object", 0, () -> x.read(1023));
        x.write(5, 17);
        Check.due("2 read(5) from the cache", 17, () -> x.read(5));
        Check.due("2 read(4), its neighbour", 0, () -> x.read(4));
        x.read(20);
        Check.due("2 line 1 sits", 2, () -> x.placeOf(1));
        Check.due("2 read(5) from the bench", 17, () -> x.read(5));
        x.walk(20, 16, 3);
        Check.due("2 line 1 is at home", 0, () -> x.placeOf(1));
        Check.due("2 read(5) from the memory", 17, () -> x.read(5));
        Check.due("2 a read leaves the line clean", false, () -> x.isDirty(1));
        for (int address : new int[] {-1, 1024, LOW, HIGH}) {
            Check.due("2 read(" + address + ")", NO_INDEX, () -> x.read(address));
        }
    }

    private static void write() {
        OutcastBench x = new OutcastBench();
        Check.due("3 write(7, 3)", 0, () -> x.write(7, 3));
        Check.due("3 write(7, least)", 3, () -> x.write(7, LOW));
        Check.due("3 write(7, most)", LOW, () -> x.write(7, HIGH));
        Check.due("3 read(7)", HIGH, () -> x.read(7));
        Check.due("3 dirty", true, () -> x.isDirty(1));
        Check.due("3 write(1023, -1)", 0, () -> x.write(1023, -1));
        Check.due("3 write(0, 1)", 0, () -> x.write(0, 1));
        Check.due("3 write(0, 0)", 1, () -> x.write(0, 0));
        Check.due("3 write(0, 1) again", 0, () -> x.write(0, 1));
        x.bringHome();
        Check.due("3 write of the same word", HIGH, () -> x.write(7, HIGH));
        Check.due("3 dirty by the same word", true, () -> x.isDirty(1));
        x.walk(16, 16, 3);
        Check.due("3 write on the bench", 1, () -> x.write(0, 2));
        Check.due("3 dirty after a swap", true, () -> x.isDirty(0));
        for (int address : new int[] {-1, 1024, LOW, HIGH}) {
            Check.due("3 write(" + address + ", 9)", NO_INDEX, () -> x.write(address, 9));
        }
    }

    private static void walk() {
        OutcastBench x = new OutcastBench();
        Check.due("4 one line of four words", 20 + 3, () -> x.walk(0, 1, 4));
        Check.due("4 the same word", 100, () -> x.walk(0, 0, 100));
        Check.due("4 over the end", 20 + 1, () -> x.walk(1023, 1, 2));
        Check.due("4 the line of 1023", 1, () -> x.placeOf(255));
        Check.due("4 back over the start", 1 + 1, () -> x.walk(0, -1, 2));
        Check.due("4 one word does not step", 1, () -> x.walk(1023, -64, 1));
        Check.due("4 counted", "107 0 2", () -> x.hits() + " " + x.swaps() + " " + x.misses());

        OutcastBench far = new OutcastBench();
        far.walk(1000, 64, 2);
        Check.due("4 1000 + 64 is 40", 1, () -> far.placeOf(10));
        far.walk(10, -64, 2);
        Check.due("4 10 - 64 is 970", 1, () -> far.placeOf(242));

        OutcastBench round = new OutcastBench();
        round.walk(1023, 4, 2);
        Check.due("4 1023 + 4 is 3", 1, () -> round.placeOf(0));
        round.walk(0, -4, 2);
        Check.due("4 0 - 4 is 1020", "2 0", () -> round.hits() + " " + round.swaps());

        OutcastBench homes = new OutcastBench();
        homes.build(1, 1);
        homes.write(0, 5);
        homes.write(4, 6);
        Check.due("4 with swaps and homecomings", 3 + 30 + 30 + 20, () -> homes.walk(0, 8, 4));
        Check.due("4 cost so far", 40 + 83, () -> homes.cost());
        Check.due("4 the walk is among the last accesses", 40 + 83, () -> homes.wouldCost(1, 1));
    }

    private static void walkRefused() {
        OutcastBench x = new OutcastBench();
        for (int from : new int[] {-1, 1024, LOW, HIGH}) {
            Check.due("4 walk(" + from + ", 1, 1)", NO_INDEX, () -> x.walk(from, 1, 1));
            Check.due("4 walk(" + from + ", 65, 0)", NO_INDEX, () -> x.walk(from, 65, 0));
        }
        for (int step : new int[] {-65, 65, LOW, HIGH}) {
            Check.due("4 walk(0, " + step + ", 1)", NO_ARGUMENT, () -> x.walk(0, step, 1));
        }
        for (int count : new int[] {0, -1, 101, LOW, HIGH}) {
            Check.due("4 walk(0, 1, " + count + ")", NO_ARGUMENT, () -> x.walk(0, 1, count));
        }
    }

    private static void bringHome() {
        OutcastBench x = new OutcastBench();
        Check.due("5 nothing to bring", 0, () -> x.bringHome());
        x.write(1, 11);
        x.write(17, 22);
        x.write(6, 33);
        x.read(8);
        Check.due("5 before", "4 1 2 -1 | 0 of 2 | dirty 0 1 4 | 0 0 4 0 80", () -> standing(x));
        Check.due("5 bringHome()", 3, () -> x.bringHome());
        Check.due("5 after", "4 1 2 -1 | 0 of 2 | dirty | 0 0 4 3 110", () -> standing(x));
        Check.due("5 from the cache", 33, () -> x.atHome(6));
        Check.due("5 from the bench", 11, () -> x.atHome(1));
        Check.due("5 again", 0, () -> x.bringHome());
        x.write(1, 12);
        Check.due("5 once more dirty", 1, () -> x.bringHome());
        Check.due("5 written again", 12, () -> x.atHome(1));
        Check.due("5 no accesses of its own", 5, () -> x.hits() + x.swaps() + x.misses());
    }

    private static void build() {
        OutcastBench x = new OutcastBench();
        Check.due("6 nothing to forget", 0, () -> x.build(4, 2));
        x.write(1, 11);
        x.write(17, 22);
        x.read(8);
        Check.due("6 before", "4 -1 2 -1 | 0 of 2 | dirty 0 4 | 0 0 3 0 60", () -> standing(x));
        Check.due("6 build(2, 8)", 3, () -> x.build(2, 8));
        Check.due("6 after", "-1 -1 |  of 8 | dirty | 0 0 3 2 80", () -> standing(x));
        Check.due("6 home from the bench", 11, () -> x.atHome(1));
        Check.due("6 home from the cache", 22, () -> x.atHome(17));
        Check.due("6 the word stays", 22, () -> x.peek(17));
        Check.due("6 the last accesses stay", 60, () -> x.wouldCost(4, 2));
        Check.due("6 forgotten", 0, () -> x.placeOf(0) + x.placeOf(4) + x.placeOf(2));
        x.read(12);
        x.read(16);
        Check.due("6 two sets", "4 3", () -> x.lineIn(0) + " " + x.lineIn(1));
        Check.due("6 the same size forgets too", 2, () -> x.build(2, 8));
        x.build(16, 0);
        x.walk(0, 4, 16);
        x.read(64);
        Check.due("6 sixteen sets and no bench", 16, () -> x.build(1, 1));
    }

    private static void buildRefused() {
        OutcastBench x = new OutcastBench();
        for (int sets : new int[] {0, -1, 3, 5, 6, 7, 12, 15, 17, 32, LOW, HIGH}) {
            Check.due("6 build(" + sets + ", 2)", NO_ARGUMENT, () -> x.build(sets, 2));
        }
        for (int places : new int[] {-1, 9, LOW, HIGH}) {
            Check.due("6 build(4, " + places + ")", NO_ARGUMENT, () -> x.build(4, places));
        }
        for (int sets : new int[] {1, 2, 4, 8, 16}) {
            for (int places = 0; places <= 8; places++) {
                int wanted = places;
                Check.due("6 build(" + sets + ", " + places + ")", 0, () -> x.build(sets, wanted));
            }
        }
    }

    private static void cast() {
        OutcastBench x = new OutcastBench();
        x.write(4, 1);
        x.read(0);
        Check.due("7 cast(1)", 1, () -> x.cast(1));
        Check.due("7 after", "0 -1 -1 -1 | 1 of 2 | dirty 1 | 0 0 2 0 40", () -> standing(x));
        Check.due("7 cast(0)", 0, () -> x.cast(0));
        Check.due("7 the youngest", "0 1", () -> bench(x));
        Check.due("7 an empty set", NO_STATE, () -> x.cast(0));
        Check.due("7 a set that was never used", NO_STATE, () -> x.cast(3));
        for (int set : new int[] {-1, 4, LOW, HIGH}) {
            Check.due("7 cast(" + set + ")", NO_INDEX, () -> x.cast(set));
        }
        Check.due("7 no access", 40, () -> x.wouldCost(4, 2));
    }

    private static void castOntoFullBench() {
        OutcastBench x = new OutcastBench();
        x.build(1, 2);
        x.write(0, 7);
        x.read(4);
        x.read(8);
        Check.due("7 cast(0) onto a full bench", 2, () -> x.cast(0));
        Check.due("7 the oldest went home", "-1 | 2 1 of 2 | dirty | 0 0 3 1 70", () -> standing(x));
        Check.due("7 its word", 7, () -> x.atHome(0));
        x.read(0);
        Check.due("7 a clean one goes home", 0, () -> x.cast(0));
        Check.due("7 without cost", "-1 | 0 2 of 2 | dirty | 0 0 4 1 90", () -> standing(x));
    }

    private static void castWithoutBench() {
        OutcastBench x = new OutcastBench();
        x.build(1, 0);
        x.write(2, 7);
        Check.due("7 cast(0) without a bench", 0, () -> x.cast(0));
        Check.due("7 home at once", "-1 |  of 0 | dirty | 0 0 1 1 30", () -> standing(x));
        Check.due("7 its word at home", 7, () -> x.atHome(2));
    }

    private static void sets() {
        OutcastBench x = new OutcastBench();
        Check.due("8 at first", 4, () -> x.sets());
        for (int sets : new int[] {1, 2, 4, 8, 16}) {
            x.build(sets, 3);
            Check.due("8 after build", sets, () -> x.sets());
        }
    }

    private static void places() {
        OutcastBench x = new OutcastBench();
        Check.due("9 at first", 2, () -> x.places());
        for (int places = 0; places <= 8; places++) {
            x.build(4, places);
            Check.due("9 after build", places, () -> x.places());
        }
    }

    private static void lineIn() {
        OutcastBench x = new OutcastBench();
        Check.due("10 an empty set", -1, () -> x.lineIn(3));
        x.read(1023);
        Check.due("10 line 255", 255, () -> x.lineIn(3));
        x.read(12);
        Check.due("10 line 3 in its stead", 3, () -> x.lineIn(3));
        Check.due("10 the next set", -1, () -> x.lineIn(0));
        for (int set : new int[] {-1, 4, 15, LOW, HIGH}) {
            Check.due("10 lineIn(" + set + ")", NO_INDEX, () -> x.lineIn(set));
        }
        x.build(16, 2);
        x.read(1023);
        Check.due("10 the sixteenth set", 255, () -> x.lineIn(15));
        Check.due("10 no seventeenth", NO_INDEX, () -> x.lineIn(16));
        x.build(1, 2);
        x.read(1023);
        Check.due("10 the only set", 255, () -> x.lineIn(0));
        Check.due("10 no second set", NO_INDEX, () -> x.lineIn(1));
    }

    private static void sitting() {
        for (int n = 0; n <= 4; n++) {
            OutcastBench x = oneSetAfter(n);
            Check.due("11 after " + n + " lines", Math.max(0, Math.min(2, n - 1)), () -> x.sitting());
        }
        OutcastBench none = new OutcastBench();
        none.build(1, 0);
        none.walk(0, 4, 5);
        Check.due("11 on no places", 0, () -> none.sitting());
    }

    private static void lineOnBench() {
        OutcastBench x = oneSetAfter(5);
        Check.due("12 the youngest", 3, () -> x.lineOnBench(0));
        Check.due("12 the oldest", 2, () -> x.lineOnBench(1));
        for (int age : new int[] {2, -1, LOW, HIGH}) {
            Check.due("12 lineOnBench(" + age + ")", NO_INDEX, () -> x.lineOnBench(age));
        }
        OutcastBench half = oneSetAfter(2);
        Check.due("12 on a bench half full", 0, () -> half.lineOnBench(0));
        Check.due("12 a free place", NO_INDEX, () -> half.lineOnBench(1));
        Check.due("12 an empty bench", NO_INDEX, () -> new OutcastBench().lineOnBench(0));
    }

    private static void placeOf() {
        OutcastBench x = oneSetAfter(4);
        Check.due("13 in the cache", 1, () -> x.placeOf(3));
        Check.due("13 the youngest on the bench", 2, () -> x.placeOf(2));
        Check.due("13 the oldest on the bench", 2, () -> x.placeOf(1));
        Check.due("13 gone home", 0, () -> x.placeOf(0));
        Check.due("13 never asked for", 0, () -> x.placeOf(255));
        for (int line : new int[] {-1, 256, LOW, HIGH}) {
            Check.due("13 placeOf(" + line + ")", NO_INDEX, () -> x.placeOf(line));
        }
    }

    private static void isDirty() {
        OutcastBench x = new OutcastBench();
        x.build(1, 1);
        Check.due("14 only in the memory", false, () -> x.isDirty(0));
        x.read(0);
        Check.due("14 read", false, () -> x.isDirty(0));
        x.write(3, 0);
        Check.due("14 written", true, () -> x.isDirty(0));
        Check.due("14 the next line", false, () -> x.isDirty(1));
        x.read(4);
        Check.due("14 on the bench", true, () -> x.isDirty(0));
        x.read(0);
        Check.due("14 swapped back", true, () -> x.isDirty(0));
        x.read(4);
        x.read(8);
        x.read(12);
        Check.due("14 gone home", false, () -> x.isDirty(0));
        x.read(0);
        Check.due("14 come anew", false, () -> x.isDirty(0));
        for (int line : new int[] {-1, 256, LOW, HIGH}) {
            Check.due("14 isDirty(" + line + ")", NO_INDEX, () -> x.isDirty(line));
        }
    }

    private static void dirty() {
        OutcastBench x = new OutcastBench();
        x.build(1, 2);
        x.write(0, 1);
        x.write(1, 1);
        Check.due("15 two words of a line", 1, () -> x.dirty());
        x.read(4);
        x.write(8, 1);
        Check.due("15 on the bench and in the cache", 2, () -> x.dirty());
        x.read(12);
        Check.due("15 one went home", 1, () -> x.dirty());
        x.bringHome();
        Check.due("15 all brought home", 0, () -> x.dirty());
        x.write(1020, 1);
        Check.due("15 the last line", 1, () -> x.dirty());
    }

    private static void atHome() {
        OutcastBench x = new OutcastBench();
        x.build(1, 1);
        x.write(1, 11);
        x.write(2, 12);
        Check.due("16 still old", 0, () -> x.atHome(1));
        x.bringHome();
        Check.due("16 brought home", 11, () -> x.atHome(1));
        x.write(1, 21);
        Check.due("16 as it was brought home", 11, () -> x.atHome(1));
        Check.due("16 its neighbour", 12, () -> x.atHome(2));
        x.write(4, 31);
        Check.due("16 old while on the bench", 11, () -> x.atHome(1));
        x.read(8);
        Check.due("16 gone home", 21, () -> x.atHome(1));
        Check.due("16 the neighbour too", 12, () -> x.atHome(2));
        Check.due("16 the other still sits", 0, () -> x.atHome(4));
        String before = standing(x);
        Check.due("16 atHome(1023)", 0, () -> x.atHome(1023));
        Check.due("16 no access", before, () -> standing(x));
        Check.due("16 not among the last accesses", 62, () -> x.wouldCost(4, 2));
        for (int address : new int[] {-1, 1024, LOW, HIGH}) {
            Check.due("16 atHome(" + address + ")", NO_INDEX, () -> x.atHome(address));
        }
    }

    private static void peek() {
        OutcastBench x = new OutcastBench();
        x.build(1, 1);
        x.write(1, 11);
        Check.due("17 in the cache", 11, () -> x.peek(1));
        x.write(6, 12);
        Check.due("17 on the bench", 11, () -> x.peek(1));
        x.write(1023, -3);
        Check.due("17 at home", 11, () -> x.peek(1));
        Check.due("17 the last word", -3, () -> x.peek(1023));
        String before = standing(x);
        Check.due("17 another line", 0, () -> x.peek(500));
        Check.due("17 no access", before, () -> standing(x));
        Check.due("17 not among the last accesses", 60, () -> x.wouldCost(16, 0));
        for (int address : new int[] {-1, 1024, LOW, HIGH}) {
            Check.due("17 peek(" + address + ")", NO_INDEX, () -> x.peek(address));
        }
    }

    private static void hits() {
        OutcastBench x = new OutcastBench();
        x.read(0);
        Check.due("18 a miss is none", 0, () -> x.hits());
        x.read(3);
        x.write(1, 5);
        Check.due("18 a read and a write", 2, () -> x.hits());
        x.walk(0, 1, 4);
        Check.due("18 a walk", 6, () -> x.hits());
        x.read(16);
        x.read(0);
        Check.due("18 a swap is none", 6, () -> x.hits());
        x.build(4, 2);
        Check.due("18 stays when built anew", 6, () -> x.hits());
        Check.due("18 each cost 1", 6 + 20 + 20 + 3 + 10, () -> x.cost());
    }

    private static void swaps() {
        OutcastBench x = oneSetAfter(3);
        Check.due("19 before", "2 | 1 0 of 2 | dirty | 0 0 3 0 60", () -> standing(x));
        x.read(0);
        Check.due("19 the oldest", "0 | 2 1 of 2 | dirty | 0 1 3 0 63", () -> standing(x));
        x.write(8, 1);
        Check.due("19 the youngest", "2 | 0 1 of 2 | dirty 2 | 0 2 3 0 66", () -> standing(x));
        x.read(12);
        Check.due("19 ages by when they came", "3 | 2 0 of 2 | dirty 2 | 0 2 4 0 86", () -> standing(x));

        OutcastBench full = new OutcastBench();
        full.build(1, 8);
        full.walk(0, 4, 9);
        full.read(16);
        Check.due("19 from the middle", "4 | 8 7 6 5 3 2 1 0 of 8 | dirty | 0 1 9 0 183",
                () -> standing(full));
    }

    private static void swapIntoEmptySet() {
        OutcastBench x = oneSetAfter(3);
        x.cast(0);
        Check.due("19 after cast", "-1 | 2 1 of 2 | dirty | 0 0 3 0 60", () -> standing(x));
        x.read(4);
        Check.due("19 into an empty set", "1 | 2 of 2 | dirty | 0 1 3 0 63", () -> standing(x));
        x.write(20, 1);
        Check.due("19 its place became free", "5 | 1 2 of 2 | dirty 5 | 0 1 4 0 83", () -> standing(x));
    }

    private static void misses() {
        OutcastBench x = new OutcastBench();
        x.read(0);
        x.write(4, 1);
        x.walk(8, 4, 2);
        Check.due("20 four sets", "0 1 2 3 |  of 2 | dirty 1 | 0 0 4 0 80", () -> standing(x));
        x.read(28);
        Check.due("20 onto the bench", "0 1 2 7 | 3 of 2 | dirty 1 | 0 0 5 0 100", () -> standing(x));
        x.read(20);
        Check.due("20 the youngest", "0 5 2 7 | 1 3 of 2 | dirty 1 | 0 0 6 0 120", () -> standing(x));
        x.read(24);
        Check.due("20 a clean one goes", "0 5 6 7 | 2 1 of 2 | dirty 1 | 0 0 7 0 140", () -> standing(x));
        x.read(16);
        Check.due("20 a dirty one goes", "4 5 6 7 | 0 2 of 2 | dirty | 0 0 8 1 170", () -> standing(x));
        x.build(1, 0);
        x.write(0, 1);
        x.read(4);
        Check.due("20 without a bench", "1 |  of 0 | dirty | 0 0 10 2 220", () -> standing(x));
    }

    private static void homecomings() {
        OutcastBench x = new OutcastBench();
        x.build(1, 1);
        x.read(0);
        x.read(4);
        x.read(8);
        Check.due("21 clean lines", 0, () -> x.homecomings());
        x.write(12, 1);
        x.write(13, 1);
        x.read(16);
        x.read(20);
        Check.due("21 gone home", 1, () -> x.homecomings());
        x.write(20, 1);
        x.read(24);
        x.write(24, 1);
        x.bringHome();
        Check.due("21 brought home", 3, () -> x.homecomings());
        x.bringHome();
        Check.due("21 not twice", 3, () -> x.homecomings());
        x.write(24, 2);
        x.build(1, 0);
        Check.due("21 by build", 4, () -> x.homecomings());
        x.write(24, 3);
        x.cast(0);
        Check.due("21 by cast", 5, () -> x.homecomings());
    }

    private static void cost() {
        OutcastBench x = new OutcastBench();
        x.build(1, 1);
        Check.due("22 building is free", 0, () -> x.cost());
        x.write(0, 1);
        Check.due("22 a miss", 20, () -> x.cost());
        x.write(0, 2);
        Check.due("22 a hit", 21, () -> x.cost());
        x.write(4, 1);
        x.read(0);
        Check.due("22 a swap", 44, () -> x.cost());
        x.read(8);
        Check.due("22 a miss with a homecoming", 74, () -> x.cost());
        x.cast(0);
        Check.due("22 a cast with a homecoming", 84, () -> x.cost());
        x.write(8, 1);
        x.bringHome();
        Check.due("22 brought home", 97, () -> x.cost());
        x.write(8, 2);
        x.build(1, 1);
        Check.due("22 built anew", 108, () -> x.cost());
        x.peek(0);
        x.wouldCost(1, 1);
        x.bestPlaces();
        Check.due("22 looking is free", 108, () -> x.cost());
    }

    private static void wouldCost() {
        OutcastBench x = new OutcastBench();
        x.write(0, 1);
        x.write(16, 2);
        x.read(0);
        x.read(32);
        x.read(16);
        String before = standing(x);
        Check.due("23 no bench", 20 + 30 + 30 + 20 + 20, () -> x.wouldCost(4, 0));
        Check.due("23 a bench of one", 20 + 20 + 3 + 30 + 20 + 10, () -> x.wouldCost(4, 1));
        Check.due("23 a bench of two", 20 + 20 + 3 + 20 + 3, () -> x.wouldCost(4, 2));
        Check.due("23 sixteen sets", 20 + 20 + 1 + 20 + 1, () -> x.wouldCost(16, 0));
        Check.due("23 eight sets", 20 + 20 + 1 + 20 + 1, () -> x.wouldCost(8, 1));
        Check.due("23 again the same", 100 + 20, () -> x.wouldCost(4, 0));
        Check.due("23 changes nothing", before, () -> standing(x));
        Check.due("23 the words stay", 1, () -> x.read(0));

        OutcastBench late = new OutcastBench();
        late.read(0);
        late.read(4);
        late.write(0, 1);
        Check.due("23 dirty at the end", 60, () -> late.wouldCost(1, 0));
        Check.due("23 clean at the next start", 60, () -> late.wouldCost(1, 0));
    }

    private static void wouldCostForgetsOldAccesses() {
        OutcastBench x = new OutcastBench();
        x.write(4, 1);
        x.walk(0, 0, 100);
        x.walk(0, 0, 49);
        Check.due("23 150 accesses", 20 + 20 + 148, () -> x.wouldCost(4, 2));
        x.read(0);
        Check.due("23 the write is forgotten", 20 + 149, () -> x.wouldCost(4, 2));
        x.walk(8, 0, 100);
        x.write(8, 1);
        x.walk(8, 0, 48);
        Check.due("23 one of the old", 20 + 20 + 148, () -> x.wouldCost(1, 0));
        x.read(12);
        Check.due("23 in their order", 20 + 148 + 30, () -> x.wouldCost(1, 0));
    }

    private static void wouldCostCountsAccessesAlone() {
        OutcastBench x = new OutcastBench();
        x.write(0, 1);
        x.bringHome();
        x.cast(0);
        x.build(1, 0);
        x.read(4);
        x.read(0);
        x.atHome(0);
        x.peek(100);
        Check.due("23 without care", 20 + 30 + 20, () -> x.wouldCost(1, 0));
        Check.due("23 with a bench", 20 + 20 + 3, () -> x.wouldCost(1, 1));
        Check.due("23 the dirty stay at the end", 40 + 1, () -> x.wouldCost(2, 0));
    }

    private static void wouldCostRefused() {
        OutcastBench x = new OutcastBench();
        x.read(0);
        for (int sets : new int[] {0, -1, 3, 5, 6, 7, 12, 15, 17, 32, LOW, HIGH}) {
            Check.due("23 wouldCost(" + sets + ", 2)", NO_ARGUMENT, () -> x.wouldCost(sets, 2));
        }
        for (int places : new int[] {-1, 9, LOW, HIGH}) {
            Check.due("23 wouldCost(4, " + places + ")", NO_ARGUMENT, () -> x.wouldCost(4, places));
        }
        for (int sets : new int[] {1, 2, 4, 8, 16}) {
            Check.due("23 wouldCost(" + sets + ", 0)", 20, () -> x.wouldCost(sets, 0));
            Check.due("23 wouldCost(" + sets + ", 8)", 20, () -> x.wouldCost(sets, 8));
        }
    }

    private static void bestPlaces() {
        OutcastBench x = new OutcastBench();
        Check.due("24 without accesses", 0, () -> x.bestPlaces());
        x.walk(0, 4, 4);
        Check.due("24 no bench does as well", 0, () -> x.bestPlaces());
        x.walk(16, 4, 3);
        x.walk(0, 4, 3);
        String before = standing(x);
        Check.due("24 three for three", 3, () -> x.bestPlaces());
        Check.due("24 changes nothing", before, () -> standing(x));
        x.build(8, 8);
        Check.due("24 with the sets there are", 0, () -> x.bestPlaces());
        x.build(1, 0);
        Check.due("24 with one set", 6, () -> x.bestPlaces());

        OutcastBench most = new OutcastBench();
        most.build(1, 0);
        most.walk(0, 4, 9);
        most.read(0);
        Check.due("24 all eight", 8, () -> most.bestPlaces());
        OutcastBench tooMany = new OutcastBench();
        tooMany.build(1, 0);
        tooMany.walk(0, 4, 10);
        tooMany.read(0);
        Check.due("24 nine would be too many", 0, () -> tooMany.bestPlaces());
    }

    private static void refusedCallsChangeNothing() {
        OutcastBench x = oneSetAfter(3);
        x.write(12, 4);
        x.cast(0);
        String before = standing(x);
        int wouldCost = x.wouldCost(1, 2);
        Check.due("terms read", NO_INDEX, () -> x.read(1024));
        Check.due("terms write", NO_INDEX, () -> x.write(-1, 5));
        Check.due("terms walk", NO_ARGUMENT, () -> x.walk(0, 1, 101));
        Check.due("terms walk from", NO_INDEX, () -> x.walk(-1, 1, 1));
        Check.due("terms build", NO_ARGUMENT, () -> x.build(2, 9));
        Check.due("terms build sets", NO_ARGUMENT, () -> x.build(3, 2));
        Check.due("terms cast", NO_STATE, () -> x.cast(0));
        Check.due("terms cast set", NO_INDEX, () -> x.cast(1));
        Check.due("terms wouldCost", NO_ARGUMENT, () -> x.wouldCost(3, 2));
        Check.due("terms nothing changed", before, () -> standing(x));
        Check.due("terms the last accesses", wouldCost, () -> x.wouldCost(1, 2));
        Check.due("terms the words", 4, () -> x.peek(12));
    }
}
