import java.util.LinkedHashMap;
import java.util.Map;

/**
 * The sentences of the document that name no boundary but hold for all calls, or for every size,
 * each with a test of its own; above a test stands its sentence. No object is used for more than
 * the 512 calls that the document speaks of.
 */
public final class DocumentTest {
    private static final int[] ALL_SETS = {1, 2, 4, 8, 16};
    private static final int MOST_PLACES = 8;
    /** How far apart a program's addresses lie: few lines make swaps, many lines misses. */
    private static final int[] REACHES = {40, 100, 250, 1024};

    public static void main(String[] args) {
        fetchedFromTheBenchInsteadOfTheMemory();
        readsWhatItWroteLast();
        theWorkIsCounted();
        onlyTheWorkDiffers();
        setsHaveRoomForOneLine();
        placesHaveRoomForAnyLine();
        linesHaveWordsOfTheirOwn();
        accessesAreReadWriteAndWalk();
        careCostsItsHomecomingsAlone();
        looksChangeNothing();
        newObjectWhateverOthersDid();
        walkIsReadsOneAfterTheOther();
        wouldCostIsWhatTheLastAccessesCost();
        bestPlacesAreTheFewestOfTheLeast();
        exampleOfTheReadme();
        Check.end("DocumentTest");
    }

    private static void due(String what, Object want, Check.Call call) {
        Check.due(what, want, call);
    }

    private static OutcastBench built(int sets, int places) {
        OutcastBench x = new OutcastBench();
        x.build(sets, places);
        return x;
    }

    /** An access of a program; all programs are made of these, the same ones each time. */
    private static int address(int k, int reach) {
        return Math.floorMod(k * k * 37 + k / 3 * 101 + k, reach);
    }

    private static boolean writes(int k) {
        return k % 5 == 0 || k % 7 == 3;
    }

    private static void access(OutcastBench x, int k, int reach) {
        if (writes(k)) {
            x.write(address(k, reach), 1000 + k);
        } else {
            x.read(address(k, reach));
        }
    }

    private static OutcastBench after(OutcastBench x, int first, int last, int reach) {
        for (int k = first; k <= last; k++) {
            access(x, k, reach);
        }
        return x;
    }

    private static String accessCounts(OutcastBench x) {
        return x.hits() + " " + x.swaps() + " " + x.misses();
    }

    /** What 45 other sizes would have cost: two runs of other accesses hardly agree on all. */
    private static String allWouldCost(OutcastBench x) {
        StringBuilder text = new StringBuilder();
        for (int sets : ALL_SETS) {
            for (int places = 0; places <= MOST_PLACES; places++) {
                text.append(x.wouldCost(sets, places)).append(' ');
            }
        }
        return text.toString();
    }

    /** All that can be asked of some 40 lines, with less than 300 calls. */
    private static String told(OutcastBench x) {
        StringBuilder text = new StringBuilder();
        int sets = x.sets();
        int sitting = x.sitting();
        text.append(sets).append(' ').append(x.places()).append(" |");
        for (int set = 0; set < sets; set++) {
            text.append(' ').append(x.lineIn(set));
        }
        text.append(" |");
        for (int age = 0; age < sitting; age++) {
            text.append(' ').append(x.lineOnBench(age));
        }
        text.append(" | ");
        for (int line = 0; line < 40; line++) {
            text.append(x.placeOf(line)).append(x.isDirty(line) ? "d " : " ");
        }
        for (int address = 0; address < 40; address++) {
            text.append(x.peek(address)).append('/').append(x.atHome(address)).append(' ');
        }
        text.append("| ").append(x.dirty()).append(' ').append(accessCounts(x));
        text.append(' ').append(x.homecomings()).append(' ').append(x.cost());
        return text.append(" | ").append(x.bestPlaces()).append(' ').append(allWouldCost(x)).toString();
    }

    // ---- What it is

    /**
     * "a line that is asked for again soon is fetched from the bench instead of the memory, and
     * changes places with the one that stands in its way".
     */
    private static void fetchedFromTheBenchInsteadOfTheMemory() {
        OutcastBench x = new OutcastBench();
        x.write(0, 7);
        x.write(16, 8);
        for (int k = 0; k < 4; k++) {
            due("line 0 from the bench", 7, () -> x.read(0));
            due("line 4 is where it was", "0 4", () -> x.lineIn(0) + " " + x.lineOnBench(0));
            due("line 4 from the bench", 8, () -> x.read(16));
            due("line 0 is where it was", "4 0", () -> x.lineIn(0) + " " + x.lineOnBench(0));
        }
        due("the memory was not asked again", "0 8 2", () -> accessCounts(x));
        due("nor has it these words", "0 0", () -> x.atHome(0) + " " + x.atHome(16));
    }

    // ---- Terms

    /** "What a program reads is always what it wrote last, wherever that is". */
    private static void readsWhatItWroteLast() {
        for (int sets : ALL_SETS) {
            for (int places = 0; places <= MOST_PLACES; places++) {
                for (int reach : REACHES) {
                    readsWhatItWroteLast(built(sets, places), sets + ", " + places + ", " + reach, reach);
                }
            }
        }
    }

    /** Care between the accesses moves the lines to and fro, but not what is read. */
    private static void readsWhatItWroteLast(OutcastBench x, String size, int reach) {
        int[] words = new int[1024];
        for (int k = 0; k < 200; k++) {
            int address = address(k, reach);
            int before = words[address];
            if (writes(k)) {
                int value = 1000 + k;
                due("program " + size + ": write " + k, before, () -> x.write(address, value));
                words[address] = value;
            } else {
                due("program " + size + ": read " + k, before, () -> x.read(address));
            }
            if (k % 9 == 8) {
                x.cast(address / 4 % x.sets());
            } else if (k % 37 == 20) {
                x.bringHome();
            } else if (k % 71 == 70) {
                x.build(x.sets(), x.places());
            } else if (k % 4 == 2) {
                int other = address(k / 2, reach);
                due("program " + size + ": peek " + k, words[other], () -> x.peek(other));
            }
        }
        x.build(1, 0);
        for (int k = 0; k < 100; k++) {
            int address = address(2 * k, reach);
            due("program " + size + ": at home " + k, words[address], () -> x.atHome(address));
        }
    }

    /** "only the work differs, and it is counted": all of it, each by its kind. */
    private static void theWorkIsCounted() {
        for (int sets : ALL_SETS) {
            for (int places = 0; places <= MOST_PLACES; places++) {
                for (int reach : REACHES) {
                    OutcastBench x = after(built(sets, places), 0, 99, reach);
                    String size = sets + ", " + places + ", " + reach;
                    if (sets % 4 == 1) {
                        x.bringHome();
                        after(x, 100, 139, reach);
                        x.build(2 * sets, places);
                        after(x, 140, 199, reach);
                    } else {
                        after(x, 100, 199, reach);
                    }
                    due("accesses of " + size, 200, () -> x.hits() + x.swaps() + x.misses());
                    due("cost of " + size,
                            x.hits() + 3 * x.swaps() + 20 * x.misses() + 10 * x.homecomings(), x::cost);
                }
            }
        }
    }

    /** The same: with a smaller cache the same words are read, and it costs more. */
    private static void onlyTheWorkDiffers() {
        int wordsThatFit = 4 * (16 + MOST_PLACES);
        OutcastBench small = after(built(1, 0), 0, 199, wordsThatFit);
        OutcastBench large = after(built(16, 8), 0, 199, wordsThatFit);
        for (int address = 0; address < wordsThatFit; address++) {
            int word = address;
            due("the same word " + address, small.peek(address), () -> large.peek(word));
        }
        due("more misses", true, () -> small.misses() > large.misses());
        due("more homecomings", true, () -> small.homecomings() > large.homecomings());
        due("more cost", true, () -> small.cost() > large.cost());
        due("each line was fetched once", "24 0", () -> large.misses() + " " + large.homecomings());
    }

    /** "The cache has .. sets, each of which has room for one line". */
    private static void setsHaveRoomForOneLine() {
        for (int sets : ALL_SETS) {
            OutcastBench x = built(sets, 0);
            for (int n = 0; n < 100; n++) {
                int line = n;
                x.read(4 * n);
                due("line " + n + " of " + sets + " sets came", 1, () -> x.placeOf(line));
                if (n >= sets) {
                    due("line " + (n - sets) + " made room", 0, () -> x.placeOf(line - sets));
                }
                if (n >= 1 && sets > 1) {
                    due("line " + (n - 1) + " did not", 1, () -> x.placeOf(line - 1));
                }
            }
        }
    }

    /** "The bench has .. places .., each with room for any line": of any number and any set. */
    private static void placesHaveRoomForAnyLine() {
        for (int n = 0; n < 256; n++) {
            int line = n;
            OutcastBench x = built(16, 1);
            x.read(4 * n);
            x.cast(n % 16);
            due("line " + n + " sits", line, () -> x.lineOnBench(0));
            due("line " + n + " is there", 2, () -> x.placeOf(line));
        }
        for (int sets : ALL_SETS) {
            for (int apart : new int[] {1, 3, 16, 36}) {
                OutcastBench x = built(sets, 8);
                StringBuilder want = new StringBuilder();
                for (int k = 0; k < 8; k++) {
                    x.read(4 * apart * k);
                    x.cast(apart * k % sets);
                    want.insert(0, apart * k + " ");
                }
                due("eight lines of " + sets + " sets", want.toString(), () -> bench(x));
            }
        }
    }

    private static String bench(OutcastBench x) {
        StringBuilder text = new StringBuilder();
        int sitting = x.sitting();
        for (int age = 0; age < sitting; age++) {
            text.append(x.lineOnBench(age)).append(' ');
        }
        return text.toString();
    }

    /** "A line that is in the cache or on the bench has words of its own". */
    private static void linesHaveWordsOfTheirOwn() {
        OutcastBench x = built(16, 8);
        int[] lines = new int[24];
        for (int k = 0; k < 24; k++) {
            lines[k] = k < 8 ? k : k + 8;
            for (int word = 4 * lines[k]; word < 4 * lines[k] + 4; word++) {
                x.write(word, 5000 + word);
            }
        }
        due("all are held", "24 8", () -> x.dirty() + " " + x.sitting());
        for (int line : lines) {
            for (int word = 4 * line; word < 4 * line + 4; word++) {
                int address = word;
                due("own word " + word, 5000 + word, () -> x.peek(address));
                due("the memory's word " + word, 0, () -> x.atHome(address));
            }
        }
        x.bringHome();
        for (int line : lines) {
            for (int word = 4 * line; word < 4 * line + 4; word++) {
                int address = word;
                due("brought home word " + word, 5000 + word, () -> x.atHome(address));
            }
        }
        for (int address = 32; address < 64; address++) {
            int word = address;
            due("no line's word " + address, 0, () -> x.atHome(word));
        }
    }

    /** "Ahead of the calls read, write, walk the interface says: ---- a program's accesses." */
    private static void accessesAreReadWriteAndWalk() {
        for (Map.Entry<String, Call> access : accesses().entrySet()) {
            OutcastBench x = used();
            int before = x.hits() + x.swaps() + x.misses();
            access.getValue().on(x);
            due(access.getKey() + " is one access", before + 1, () -> x.hits() + x.swaps() + x.misses());
        }
        Map<String, Call> others = care();
        others.putAll(looks());
        for (Map.Entry<String, Call> other : others.entrySet()) {
            OutcastBench x = used();
            String counted = accessCounts(x);
            String last = allWouldCost(x);
            other.getValue().on(x);
            due(other.getKey() + " is no access", counted, () -> accessCounts(x));
            due(other.getKey() + " is not among the last ones", last, () -> allWouldCost(x));
        }
    }

    /** "Ahead of the calls bringHome, build, cast the interface says: ---- care." */
    private static void careCostsItsHomecomingsAlone() {
        for (Map.Entry<String, Call> care : care().entrySet()) {
            OutcastBench x = used();
            int cost = x.cost();
            int homecomings = x.homecomings();
            care.getValue().on(x);
            due(care.getKey() + " costs its homecomings",
                    10 * (x.homecomings() - homecomings), () -> x.cost() - cost);
            for (int address = 0; address < 40; address++) {
                int word = address;
                due(care.getKey() + " leaves word " + address, used().peek(word), () -> x.peek(word));
            }
        }
    }

    /**
     * "Ahead of the calls sets, places, lineIn, .. peek the interface says: ---- how it stands.";
     * "Ahead of the calls hits, swaps, .. bestPlaces the interface says: ---- work.": they only tell.
     */
    private static void looksChangeNothing() {
        String before = told(used());
        for (Map.Entry<String, Call> look : looks().entrySet()) {
            OutcastBench x = used();
            Object answer = look.getValue().on(x);
            due(look.getKey() + " answers again", answer, () -> look.getValue().on(x));
            due(look.getKey() + " changes nothing", before, () -> told(x));
        }
    }

    private interface Call {
        Object on(OutcastBench x);
    }

    private static Map<String, Call> accesses() {
        Map<String, Call> calls = new LinkedHashMap<>();
        calls.put("read(0)", x -> x.read(0));
        calls.put("write(9, 1)", x -> x.write(9, 1));
        calls.put("walk(200, 3, 1)", x -> x.walk(200, 3, 1));
        return calls;
    }

    private static Map<String, Call> care() {
        Map<String, Call> calls = new LinkedHashMap<>();
        calls.put("bringHome()", x -> x.bringHome());
        calls.put("build(4, 2)", x -> x.build(4, 2));
        calls.put("build(16, 0)", x -> x.build(16, 0));
        calls.put("cast(1)", x -> x.cast(1));
        return calls;
    }

    private static Map<String, Call> looks() {
        Map<String, Call> calls = new LinkedHashMap<>();
        calls.put("sets()", x -> x.sets());
        calls.put("places()", x -> x.places());
        calls.put("lineIn(1)", x -> x.lineIn(1));
        calls.put("lineIn(2)", x -> x.lineIn(2));
        calls.put("sitting()", x -> x.sitting());
        calls.put("lineOnBench(1)", x -> x.lineOnBench(1));
        calls.put("placeOf(1)", x -> x.placeOf(1));
        calls.put("placeOf(250)", x -> x.placeOf(250));
        calls.put("isDirty(1)", x -> x.isDirty(1));
        calls.put("isDirty(250)", x -> x.isDirty(250));
        calls.put("dirty()", x -> x.dirty());
        calls.put("atHome(4)", x -> x.atHome(4));
        calls.put("atHome(1000)", x -> x.atHome(1000));
        calls.put("peek(4)", x -> x.peek(4));
        calls.put("peek(1000)", x -> x.peek(1000));
        calls.put("hits()", x -> x.hits());
        calls.put("swaps()", x -> x.swaps());
        calls.put("misses()", x -> x.misses());
        calls.put("homecomings()", x -> x.homecomings());
        calls.put("cost()", x -> x.cost());
        calls.put("wouldCost(16, 8)", x -> x.wouldCost(16, 8));
        calls.put("wouldCost(1, 0)", x -> x.wouldCost(1, 0));
        calls.put("bestPlaces()", x -> x.bestPlaces());
        return calls;
    }

    /** The sets 0, 1 and 3 hold a line, the bench is full; dirty lines are in both; all has been counted. */
    private static OutcastBench used() {
        OutcastBench x = new OutcastBench();
        x.write(4, 9);
        x.bringHome();
        x.write(4, 10);
        x.write(0, 11);
        x.write(20, 12);
        x.walk(12, 1, 4);
        x.read(4);
        x.write(24, 13);
        x.cast(2);
        x.write(2, 14);
        return x;
    }

    // ---- The promises

    /** A new object: "A memory of zeros, an empty cache of 4 sets, an empty bench of 2 places." */
    private static void newObjectWhateverOthersDid() {
        String first = told(new OutcastBench());
        OutcastBench other = after(built(1, 8), 0, 99, 40);
        other.wouldCost(1, 0);
        due("a new one beside a used one", first, () -> told(new OutcastBench()));
        String before = told(after(built(2, 3), 0, 49, 40));
        OutcastBench one = built(2, 3);
        OutcastBench two = built(8, 1);
        for (int k = 0; k < 50; k++) {
            access(one, k, 40);
            access(two, k + 7, 40);
            two.wouldCost(4, 4);
        }
        due("two side by side", before, () -> told(one));
    }

    /** walk: "Reads words one after the other." */
    private static void walkIsReadsOneAfterTheOther() {
        for (int step : new int[] {-64, -63, -17, -4, -1, 0, 1, 3, 5, 33, 64}) {
            for (int from : new int[] {0, 5, 500, 1023}) {
                OutcastBench walks = after(new OutcastBench(), 0, 29, 100);
                OutcastBench reads = after(new OutcastBench(), 0, 29, 100);
                int before = reads.cost();
                for (int k = 0; k < 100; k++) {
                    reads.read((from + k * step + 64 * 1024) % 1024);
                }
                String walk = "walk(" + from + ", " + step + ", 100)";
                due(walk + " costs as much", reads.cost() - before, () -> walks.walk(from, step, 100));
                due(walk + " leaves all so", told(reads), () -> told(walks));
            }
        }
    }

    /**
     * wouldCost: "What the last accesses would have cost with another cache and bench, empty ahead
     * of the first of these, with nothing but them: up to 150".
     */
    private static void wouldCostIsWhatTheLastAccessesCost() {
        for (int reach : REACHES) {
            for (int n : new int[] {1, 149, 150, 151, 200, 400}) {
                OutcastBench x = after(new OutcastBench(), 1, n, reach);
                for (int sets : ALL_SETS) {
                    for (int places = 0; places <= MOST_PLACES; places++) {
                        OutcastBench other = after(built(sets, places), Math.max(1, n - 149), n, reach);
                        int most = places;
                        due("wouldCost(" + sets + ", " + places + ") after " + n, other.cost(),
                                () -> x.wouldCost(sets, most));
                    }
                }
            }
        }
    }

    /** bestPlaces: "The fewest places with which the last accesses would have cost the least". */
    private static void bestPlacesAreTheFewestOfTheLeast() {
        for (int reach : REACHES) {
            for (int n = 0; n <= 200; n += 25) {
                OutcastBench x = after(new OutcastBench(), 1, n, reach);
                for (int sets : ALL_SETS) {
                    x.build(sets, n % 9);
                    int fewest = MOST_PLACES;
                    for (int places = MOST_PLACES - 1; places >= 0; places--) {
                        if (x.wouldCost(sets, places) <= x.wouldCost(sets, fewest)) {
                            fewest = places;
                        }
                    }
                    due("bestPlaces() of " + sets + " sets after " + n, fewest, x::bestPlaces);
                }
            }
        }
    }

    /** What README.md answers in its example. */
    private static void exampleOfTheReadme() {
        OutcastBench x = new OutcastBench();
        due("README write(1, 11)", 0, () -> x.write(1, 11));
        due("README read(17)", 0, () -> x.read(17));
        due("README read(1)", 11, () -> x.read(1));
        due("README cost()", 43, () -> x.cost());
        due("README wouldCost(8, 0)", 41, () -> x.wouldCost(8, 0));
        due("README bestPlaces()", 1, () -> x.bestPlaces());
    }
}
