import java.util.ArrayList;
import java.util.List;

/**
 * For each sentence of the document that names a boundary a test of its own, in the document's
 * order; above a test stands its sentence. What a refused call may not change is RefusedTest's.
 * No object is used for more than the 512 calls that the document speaks of.
 */
public final class BoundaryTest {
    private static final String NO_INDEX = "throws.IndexOutOfBoundsException";
    private static final String NO_ARGUMENT = "throws.IllegalArgumentException";
    private static final String NO_STATE = "throws.IllegalStateException";
    private static final int LOW = Integer.MIN_VALUE;
    private static final int HIGH = Integer.MAX_VALUE;
    private static final int[] ALL_SETS = {1, 2, 4, 8, 16};
    private static final int[] NO_WORDS = {-1, 1024, 1025, -1024, 2048, LOW, HIGH};
    private static final int[] NO_LINES = {-1, 256, 257, -256, 1023, LOW, HIGH};

    public static void main(String[] args) {
        lastCallAllowed();
        terms();
        accesses();
        care();
        standing();
        work();
        Check.end("BoundaryTest");
    }

    private static void terms() {
        wordsAtFirst();
        everyWordKeepsAnyInt();
        linesOfFourWords();
        setOfEachLine();
        sizeAtFirst();
        emptyAtFirst();
        dirtyByAnyWord();
        cleanWhenItCameFromTheMemory();
        cleanWhenLastBroughtHome();
        hitInTheCache();
        swapTakesItsPlace();
        swapMakesTheYoungest();
        swapOnFullBench();
        swapOnOnePlace();
        swapInItsOwnSet();
        swapIntoEmptySet();
        swapKeepsWhatIsDirty();
        missIntoEmptySet();
        missOntoBenchWithRoom();
        missOntoFullBench();
        missWithoutPlaces();
        missComesClean();
        goesHomeWithAllWords();
        goesHomeOnceMore();
        agesByWhenTheyCame();
    }

    private static void accesses() {
        readFirstAndLastWord();
        readNeverWritten();
        writeFirstAndLastWord();
        writeAnswersTheFirstTime();
        writeMakesDirtyWherever();
        walkFirstAndLastWord();
        walkShortestAndLongest();
        walkStepAtItsEnds();
        walkOverTheEnd();
        walkOverTheStart();
        walkManyTimesRound();
        walkOfNoStep();
        walkAnswersItsOwnCost();
        walkWithHomecomings();
        walkOnlyReads();
    }

    private static void care() {
        bringHomeNothing();
        bringHomeAll();
        bringHomeLeavesThemThere();
        buildOfNothing();
        buildForgetsAll();
        buildBringsTheDirtyHome();
        buildLeavesBothEmpty();
        buildKeepsWhatWasCounted();
        buildOfTheSameSize();
        buildOfEachSize();
        buildOfNoSize();
        castFirstAndLastSet();
        castFromEmptySet();
        castOntoBenchWithRoom();
        castOntoFullBench();
        castWithoutPlaces();
        castIsNoAccess();
    }

    private static void standing() {
        setsAndPlacesAfterBuild();
        lineInFirstAndLastSet();
        sittingFromNoneToAll();
        lineOnBenchYoungestAndOldest();
        placeOfFirstAndLastLine();
        placeOfEachKind();
        isDirtyFirstAndLastLine();
        isDirtyOnlyInTheMemory();
        dirtyFromNoneToAll();
        atHomeFirstAndLastWord();
        atHomeWhateverWasWritten();
        peekFirstAndLastWord();
        peekWherever();
        looksAreNoAccess();
    }

    private static void work() {
        countsAtFirst();
        cleanLinesDoNotCount();
        wouldCostOfNothing();
        wouldCostOfOne();
        wouldCostEmptyAheadOfTheFirst();
        wouldCostOf150();
        wouldCostOfTheWriteThatIsTheFirst();
        wouldCostOfAWalkOverTheEdge();
        wouldCostWithNothingButThem();
        wouldCostDirtyAtTheEnd();
        wouldCostOfEachSize();
        wouldCostOfNoSize();
        bestPlacesOfNothing();
        bestPlacesTheFewest();
        bestPlacesFromNoneToAll();
        bestPlacesWithTheSetsThereAre();
    }

    private static void due(String what, Object want, Check.Call call) {
        Check.due(what, want, call);
    }

    private static OutcastBench built(int sets, int places) {
        OutcastBench x = new OutcastBench();
        x.build(sets, places);
        return x;
    }

    /** One set, so that each line throws out the one ahead of it: the lines 0 to n - 1 were read. */
    private static OutcastBench oneSet(int places, int n) {
        OutcastBench x = built(1, places);
        for (int line = 0; line < n; line++) {
            x.read(4 * line);
        }
        return x;
    }

    /** All that an object can hold: 16 dirty lines, 16 to 31, in the cache, 0 to 7 on the bench. */
    private static OutcastBench allDirty() {
        OutcastBench x = built(16, 8);
        for (int line = 0; line < 8; line++) {
            x.write(4 * line, 100 + line);
        }
        for (int line = 16; line < 32; line++) {
            x.write(4 * line, 100 + line);
        }
        return x;
    }

    private static String cache(OutcastBench x) {
        StringBuilder text = new StringBuilder();
        int sets = x.sets();
        for (int set = 0; set < sets; set++) {
            text.append(x.lineIn(set)).append(' ');
        }
        return text.toString().trim();
    }

    /** The youngest first. */
    private static String bench(OutcastBench x) {
        StringBuilder text = new StringBuilder();
        int sitting = x.sitting();
        for (int age = 0; age < sitting; age++) {
            text.append(x.lineOnBench(age)).append(' ');
        }
        return text.toString().trim();
    }

    private static String both(OutcastBench x) {
        return cache(x) + " | " + bench(x);
    }

    private static String counts(OutcastBench x) {
        return x.hits() + " " + x.swaps() + " " + x.misses() + " " + x.homecomings() + " " + x.cost();
    }

    // ---- What it is

    /** "An object is used for at most 512 calls after it has been made". */
    private static void lastCallAllowed() {
        OutcastBench walks = built(1, 0);
        for (int call = 2; call <= 510; call++) {
            walks.walk(0, 4, 100);
        }
        due("call 511 after 509 walks", 50_900, () -> walks.misses());
        due("call 512 after 509 walks", 1_018_000, () -> walks.cost());

        OutcastBench writes = new OutcastBench();
        for (int call = 1; call <= 511; call++) {
            writes.write(2 * call, call);
        }
        due("call 512 after 511 writes", 255, () -> writes.read(510));

        OutcastBench homes = built(1, 0);
        for (int call = 2; call <= 511; call++) {
            homes.write(call % 2 * 4, call);
        }
        due("call 512 after 510 homecomings", 149 * 30 + 20, () -> homes.wouldCost(1, 0));
    }

    // ---- Terms

    /** "The memory has 1024 words, 0 to 1023, each an int (0 at first)." */
    private static void wordsAtFirst() {
        for (int first = 0; first < 1024; first += 128) {
            OutcastBench x = new OutcastBench();
            for (int k = first; k < first + 128; k++) {
                int address = k;
                due("terms atHome(" + k + ") at first", 0, () -> x.atHome(address));
                due("terms peek(" + k + ") at first", 0, () -> x.peek(address));
                due("terms read(" + k + ") at first", 0, () -> x.read(address));
            }
        }
    }

    /** The same sentence: each word is a word for itself, and an int of any size fits. */
    private static void everyWordKeepsAnyInt() {
        for (int first = 0; first < 1024; first += 256) {
            OutcastBench x = new OutcastBench();
            for (int k = first; k < first + 256; k++) {
                x.write(k, 7919 * (k + 1));
            }
            for (int k = first; k < first + 256; k++) {
                int address = k;
                due("terms word " + k, 7919 * (k + 1), () -> x.peek(address));
            }
        }
        for (int value : new int[] {LOW, LOW + 1, -1, 0, 1, HIGH - 1, HIGH}) {
            OutcastBench x = built(1, 0);
            x.write(1023, value);
            due("terms read of " + value, value, () -> x.read(1023));
            x.read(0);
            due("terms " + value + " at home", value, () -> x.atHome(1023));
        }
    }

    /** "the line n has the words 4n to 4n + 3". */
    private static void linesOfFourWords() {
        for (int n = 0; n < 256; n++) {
            int line = n;
            OutcastBench x = new OutcastBench();
            x.read(4 * n);
            due("terms line " + n + " by its first word", 1, () -> x.placeOf(line));
            x.read(4 * n + 1);
            x.read(4 * n + 2);
            x.read(4 * n + 3);
            due("terms the other words of line " + n, "3 0 1 0 23", () -> counts(x));
            OutcastBench y = new OutcastBench();
            y.read(4 * n + 3);
            due("terms line " + n + " by its last word", 1, () -> y.placeOf(line));
            if (n < 255) {
                due("terms not yet line " + (n + 1), 0, () -> y.placeOf(line + 1));
            }
        }
    }

    /** "the line n can only be in the set n modulo the sets". */
    private static void setOfEachLine() {
        for (int sets : ALL_SETS) {
            for (int n = 0; n < 256; n++) {
                int line = n;
                OutcastBench x = built(sets, 2);
                x.read(4 * n);
                due("terms line " + n + " of " + sets + " sets", n, () -> x.lineIn(line % sets));
                x.cast(line % sets);
                due("terms line " + n + " in that set alone", "-1 ".repeat(sets).trim(), () -> cache(x));
            }
        }
    }

    /** "The cache has 1, 2, 4, 8 or 16 sets (4 at first)"; "The bench has 0 to 8 places (2 at first)". */
    private static void sizeAtFirst() {
        OutcastBench x = new OutcastBench();
        due("1 sets at first", 4, () -> x.sets());
        due("1 places at first", 2, () -> x.places());
        x.walk(0, 4, 7);
        due("1 four sets and two places are used", "4 5 6 3 | 2 1", () -> both(x));
    }

    /** "Both are empty at first." */
    private static void emptyAtFirst() {
        OutcastBench x = new OutcastBench();
        due("1 the cache at first", "-1 -1 -1 -1", () -> cache(x));
        due("1 sitting at first", 0, () -> x.sitting());
        due("1 no youngest at first", NO_INDEX, () -> x.lineOnBench(0));
        for (int n = 0; n < 256; n++) {
            int line = n;
            due("1 placeOf(" + n + ") at first", 0, () -> x.placeOf(line));
        }
    }

    /** "is dirty, if one of them was written". */
    private static void dirtyByAnyWord() {
        for (int word = 4; word < 8; word++) {
            OutcastBench x = new OutcastBench();
            x.write(word, 0);
            due("terms dirty by word " + word, true, () -> x.isDirty(1));
            due("terms line 0 not by word " + word, false, () -> x.isDirty(0));
            due("terms line 2 not by word " + word, false, () -> x.isDirty(2));
            due("terms one dirty line by word " + word, 1, () -> x.dirty());
        }
    }

    /** "since it came from the memory". */
    private static void cleanWhenItCameFromTheMemory() {
        OutcastBench x = built(1, 0);
        x.write(0, 1);
        x.read(4);
        x.read(0);
        due("terms written before it went home", false, () -> x.isDirty(0));
        x.read(4);
        due("terms no second homecoming", 1, () -> x.homecomings());
        x.write(0, 2);
        due("terms written since it came", true, () -> x.isDirty(0));
    }

    /** "or was last brought home". */
    private static void cleanWhenLastBroughtHome() {
        OutcastBench x = new OutcastBench();
        x.write(0, 1);
        x.bringHome();
        due("terms written before it was brought home", false, () -> x.isDirty(0));
        x.read(0);
        due("terms a read does not make it dirty", false, () -> x.isDirty(0));
        x.write(0, 1);
        due("terms written since it was brought home", true, () -> x.isDirty(0));
        x.bringHome();
        due("terms brought home twice", "0 false", () -> x.dirty() + " " + x.isDirty(0));
    }

    /** "if it is in the cache, that is a hit, and costs 1". */
    private static void hitInTheCache() {
        OutcastBench x = oneSet(2, 3);
        due("18 before", "2 | 1 0", () -> both(x));
        x.read(8);
        due("18 a hit by a read", "1 0 3 0 61", () -> counts(x));
        x.write(11, 0);
        due("18 a hit by a write", "2 0 3 0 62", () -> counts(x));
        due("18 a hit moves nothing", "2 | 1 0", () -> both(x));
    }

    /** "if it is on the bench, that is a swap, and costs 3 .. the line that was there takes its place". */
    private static void swapTakesItsPlace() {
        OutcastBench x = oneSet(8, 4);
        x.read(4);
        due("19 a swap by a read", "0 1 4 0 83", () -> counts(x));
        due("19 they changed places", "1 | 3 2 0", () -> both(x));
        x.write(0, 1);
        due("19 a swap by a write", "0 2 4 0 86", () -> counts(x));
        due("19 as many sit as before", 3, () -> x.sitting());
    }

    /** "and is the youngest one there". */
    private static void swapMakesTheYoungest() {
        OutcastBench oldest = oneSet(3, 4);
        oldest.read(0);
        due("19 for the oldest", "0 | 3 2 1", () -> both(oldest));
        OutcastBench middle = oneSet(3, 4);
        middle.read(4);
        due("19 for the middle", "1 | 3 2 0", () -> both(middle));
        OutcastBench youngest = oneSet(3, 4);
        youngest.read(8);
        due("19 for the youngest", "2 | 3 1 0", () -> both(youngest));
    }

    /** The same, on a full bench: it is no throw, so no line goes home. */
    private static void swapOnFullBench() {
        for (int places = 1; places <= 8; places++) {
            OutcastBench x = built(1, places);
            for (int line = 0; line <= places; line++) {
                x.write(4 * line, 1);
            }
            x.read(0);
            int full = places;
            due("19 sitting on " + places + " places", full, () -> x.sitting());
            due("19 none goes home from " + places, "0 1 " + (full + 1) + " 0 " + (20 * full + 23),
                    () -> counts(x));
            due("19 dirty on " + places + " places", full + 1, () -> x.dirty());
            due("19 the youngest of " + places, full, () -> x.lineOnBench(0));
        }
    }

    /** The same, with the only place: the two lines just change places, again and again. */
    private static void swapOnOnePlace() {
        OutcastBench x = oneSet(1, 2);
        for (int k = 0; k < 6; k++) {
            int asked = k % 2;
            x.read(4 * asked);
            due("19 swap " + k + " on one place", asked + " | " + (1 - asked), () -> both(x));
        }
        due("19 six swaps", "0 6 2 0 58", () -> counts(x));
    }

    /** "it comes into its set": the others stay. */
    private static void swapInItsOwnSet() {
        OutcastBench x = new OutcastBench();
        x.walk(0, 4, 4);
        x.read(20);
        x.read(28);
        due("19 before a swap among four sets", "0 5 2 7 | 3 1", () -> both(x));
        x.read(4);
        due("19 only its own set changes", "0 1 2 7 | 5 3", () -> both(x));
    }

    /** "if the set was empty, its place on the bench becomes free". */
    private static void swapIntoEmptySet() {
        for (int age = 0; age < 3; age++) {
            OutcastBench x = oneSet(3, 3);
            x.cast(0);
            due("19 nothing in the set", "-1 | 2 1 0", () -> both(x));
            int line = 2 - age;
            x.read(4 * line);
            String left = new String[] {"1 0", "2 0", "2 1"}[age];
            due("19 line " + line + " into an empty set", line + " | " + left, () -> both(x));
            due("19 a swap, too", "0 1 3 0 63", () -> counts(x));
            x.write(40, 1);
            x.write(44, 1);
            due("19 one more had room for " + line, 3, () -> x.sitting());
            due("19 the next one sent a clean one home", 0, () -> x.homecomings());
        }
        OutcastBench only = oneSet(1, 1);
        only.cast(0);
        only.read(0);
        due("19 the only place becomes free", "0 | ", () -> both(only));
        due("19 nobody sits there", NO_INDEX, () -> only.lineOnBench(0));
    }

    /** "wherever that is": a swap changes neither the words nor what is dirty. */
    private static void swapKeepsWhatIsDirty() {
        OutcastBench x = built(1, 1);
        x.write(0, 5);
        x.read(4);
        x.read(0);
        due("19 the dirty one came back", true, () -> x.isDirty(0));
        due("19 the clean one went", false, () -> x.isDirty(1));
        due("19 its word is not at home", 0, () -> x.atHome(0));
        x.read(4);
        due("19 the dirty one went", true, () -> x.isDirty(0));
        due("19 its word on the bench", 5, () -> x.peek(0));
    }

    /** "the line that is in its set is thrown": there may be none. */
    private static void missIntoEmptySet() {
        OutcastBench x = new OutcastBench();
        x.read(4);
        due("20 into an empty set", "-1 1 -1 -1 | ", () -> both(x));
        due("20 costs 20", "0 0 1 0 20", () -> counts(x));
        OutcastBench full = oneSet(1, 2);
        full.cast(0);
        full.write(8, 1);
        due("20 nothing is thrown onto a full bench", "2 | 1", () -> both(full));
    }

    /** "is thrown onto the bench as the youngest one there", with room for it. */
    private static void missOntoBenchWithRoom() {
        for (int places = 1; places <= 8; places++) {
            OutcastBench x = built(1, places);
            for (int line = 0; line <= places; line++) {
                x.write(4 * line, 1);
                int youngest = line - 1;
                if (line > 0) {
                    due("20 the youngest of " + line, youngest, () -> x.lineOnBench(0));
                    due("20 the oldest of " + line, 0, () -> x.lineOnBench(youngest));
                }
            }
            int full = places;
            due("20 all sit on " + places, full, () -> x.sitting());
            due("20 none went home from " + places, "0 0 " + (full + 1) + " 0 " + 20 * (full + 1),
                    () -> counts(x));
        }
    }

    /** "ahead of that, if the bench is full, the oldest one there goes home". */
    private static void missOntoFullBench() {
        for (int places = 1; places <= 8; places++) {
            int full = places;
            OutcastBench dirty = built(1, places);
            for (int line = 0; line <= places; line++) {
                dirty.write(4 * line, 1);
            }
            dirty.read(4 * 20);
            due("20 the oldest of " + places + " went", 0, () -> dirty.placeOf(0));
            due("20 the next oldest of " + places, 1, () -> dirty.lineOnBench(full - 1));
            due("20 the thrown one of " + places, full, () -> dirty.lineOnBench(0));
            due("20 full still with " + places, full, () -> dirty.sitting());
            due("20 a dirty one costs 10 more", "0 0 " + (full + 2) + " 1 " + (20 * full + 50),
                    () -> counts(dirty));
            OutcastBench clean = oneSet(places, places + 2);
            due("20 a clean one costs nothing", "0 0 " + (full + 2) + " 0 " + (20 * full + 40),
                    () -> counts(clean));
            due("20 the clean oldest of " + places + " went", 0, () -> clean.placeOf(0));
        }
        OutcastBench thrownDirty = built(1, 1);
        thrownDirty.read(0);
        thrownDirty.write(4, 1);
        thrownDirty.read(8);
        due("20 the clean oldest goes, not the dirty thrown one", "0 0 3 0 60", () -> counts(thrownDirty));
    }

    /** "with a bench of no places, the line that is thrown goes home at once". */
    private static void missWithoutPlaces() {
        OutcastBench x = built(1, 0);
        x.read(0);
        x.write(4, 1);
        due("20 a clean one without places", "0 0 2 0 40", () -> counts(x));
        due("20 it is not kept", 0, () -> x.placeOf(0));
        x.read(8);
        due("20 a dirty one without places", "0 0 3 1 70", () -> counts(x));
        due("20 its word without places", 1, () -> x.atHome(4));
        due("20 no one sits without places", "2 | ", () -> both(x));
        due("20 no youngest without places", NO_INDEX, () -> x.lineOnBench(0));
    }

    /** "Then the line comes from the memory into its set, clean." */
    private static void missComesClean() {
        OutcastBench x = built(1, 0);
        x.write(0, 7);
        x.write(4, 8);
        due("20 reads what went home", 7, () -> x.read(0));
        due("20 clean", "0 false", () -> x.dirty() + " " + x.isDirty(0));
        x.write(1, 9);
        due("20 a miss by a write is dirty then", true, () -> x.isDirty(0));
    }

    /** "A line that goes home is forgotten; if it is dirty, its words come into the memory first". */
    private static void goesHomeWithAllWords() {
        OutcastBench x = built(1, 1);
        for (int address = 4; address < 8; address++) {
            x.write(address, 10 * address);
        }
        x.read(20);
        for (int address = 4; address < 8; address++) {
            int word = address;
            due("terms word " + address + " still on the bench", 0, () -> x.atHome(word));
        }
        x.read(24);
        for (int address = 4; address < 8; address++) {
            int word = address;
            due("terms word " + address + " at home", 10 * address, () -> x.atHome(word));
        }
        due("terms nothing beside its words", "0 0", () -> x.atHome(3) + " " + x.atHome(8));
        due("terms forgotten", "0 false", () -> x.placeOf(1) + " " + x.isDirty(1));
        due("terms one homecoming, four words", 1, () -> x.homecomings());
    }

    /** The same, a second time: till then the memory keeps each word that came the first time. */
    private static void goesHomeOnceMore() {
        for (int written = 4; written < 8; written++) {
            OutcastBench x = built(1, 0);
            for (int address = 4; address < 8; address++) {
                x.write(address, 10 * address);
            }
            x.read(0);
            x.write(written, -1);
            for (int address = 4; address < 8; address++) {
                int word = address;
                due("terms word " + address + " keeps, " + written + " written", 10 * address,
                        () -> x.atHome(word));
            }
            x.read(0);
            for (int address = 4; address < 8; address++) {
                int word = address;
                due("terms word " + address + " comes, " + written + " written",
                        address == written ? -1 : 10 * address, () -> x.atHome(word));
            }
        }
    }

    /** "The ages of lines on the bench are told by when they came there." */
    private static void agesByWhenTheyCame() {
        OutcastBench x = oneSet(4, 4);
        x.read(4);
        x.read(12);
        due("terms line 1 came last, though it was there before", "3 | 1 2 0", () -> both(x));
        x.peek(0);
        x.atHome(0);
        x.placeOf(0);
        x.bringHome();
        x.read(12);
        due("terms a look, bringing home and a hit age nobody", "3 | 1 2 0", () -> both(x));
        x.walk(16, 4, 3);
        due("terms the oldest go first", "6 | 5 4 3 1", () -> both(x));
    }

    // ---- Promises 2 to 4

    /** read: "address: 0 to 1023"; "if there is no such word". */
    private static void readFirstAndLastWord() {
        OutcastBench x = new OutcastBench();
        x.write(0, 3);
        x.write(1023, 4);
        due("2 read(0)", 3, () -> x.read(0));
        due("2 read(1023)", 4, () -> x.read(1023));
        for (int address : NO_WORDS) {
            due("2 read(" + address + ")", NO_INDEX, () -> x.read(address));
        }
    }

    /** read: "Returns what was written there last": never, too. */
    private static void readNeverWritten() {
        OutcastBench x = new OutcastBench();
        x.write(1, 5);
        due("2 never written", 0, () -> x.read(0));
        x.write(1, 6);
        due("2 the last of two", 6, () -> x.read(1));
        x.write(1, 0);
        due("2 a zero is written, too", 0, () -> x.read(1));
    }

    /** write: "address: 0 to 1023"; "if there is no such word". */
    private static void writeFirstAndLastWord() {
        OutcastBench x = new OutcastBench();
        due("3 write(0, least)", 0, () -> x.write(0, LOW));
        due("3 write(1023, most)", 0, () -> x.write(1023, HIGH));
        due("3 both stand", LOW + " " + HIGH, () -> x.peek(0) + " " + x.peek(1023));
        for (int address : NO_WORDS) {
            due("3 write(" + address + ", 1)", NO_INDEX, () -> x.write(address, 1));
        }
    }

    /** write: "Returns what was written there last ahead of that." */
    private static void writeAnswersTheFirstTime() {
        OutcastBench x = built(1, 1);
        due("3 the first time", 0, () -> x.write(2, 8));
        due("3 in the cache", 8, () -> x.write(2, 9));
        x.read(4);
        due("3 from the bench", 9, () -> x.write(2, 10));
        x.walk(4, 4, 3);
        due("3 from the memory", "0 10", () -> x.placeOf(0) + " " + x.write(2, 11));
    }

    /** write: "its line is dirty then": by a hit, a swap, a miss, and with the same value. */
    private static void writeMakesDirtyWherever() {
        OutcastBench x = oneSet(1, 2);
        x.write(4, 0);
        due("3 dirty by a hit", true, () -> x.isDirty(1));
        x.write(0, 0);
        due("3 dirty by a swap", true, () -> x.isDirty(0));
        x.write(8, 0);
        due("3 dirty by a miss", true, () -> x.isDirty(2));
        due("3 the same value each time", 2, () -> x.bringHome());
    }

    /** walk: "from: 0 to 1023"; "if there is no such first word". */
    private static void walkFirstAndLastWord() {
        OutcastBench x = new OutcastBench();
        due("4 walk(0, 0, 1)", 20, () -> x.walk(0, 0, 1));
        due("4 walk(1023, 0, 1)", 20, () -> x.walk(1023, 0, 1));
        due("4 both lines", "0 -1 -1 255", () -> cache(x));
        for (int from : NO_WORDS) {
            due("4 walk(" + from + ", 0, 1)", NO_INDEX, () -> x.walk(from, 0, 1));
        }
    }

    /** walk: "count: 1 to 100"; "if step or count is out of range". */
    private static void walkShortestAndLongest() {
        OutcastBench x = new OutcastBench();
        due("4 count 1", 20, () -> x.walk(0, 1, 1));
        due("4 one access", "0 0 1 0 20", () -> counts(x));
        due("4 count 100", 100, () -> x.walk(3, 0, 100));
        due("4 a hundred accesses", "100 0 1 0 120", () -> counts(x));
        for (int count : new int[] {0, -1, -100, 101, 102, LOW, HIGH}) {
            due("4 count " + count, NO_ARGUMENT, () -> x.walk(0, 1, count));
        }
    }

    /** walk: "step: -64 to 64"; "if step or count is out of range". */
    private static void walkStepAtItsEnds() {
        OutcastBench x = built(16, 2);
        x.walk(100, 64, 2);
        due("4 step 64", 1, () -> x.placeOf(41));
        x.walk(100, -64, 2);
        due("4 step -64", 1, () -> x.placeOf(9));
        for (int step : new int[] {65, 66, -65, -66, 1024, -1024, LOW, HIGH}) {
            due("4 step " + step, NO_ARGUMENT, () -> x.walk(0, step, 1));
            due("4 step " + step + " and count 101", NO_ARGUMENT, () -> x.walk(0, step, 101));
        }
    }

    /** walk: "how far the next one is, modulo 1024", over the end. */
    private static void walkOverTheEnd() {
        OutcastBench one = new OutcastBench();
        due("4 1023 and 0", 40, () -> one.walk(1023, 1, 2));
        due("4 these two lines", "0 -1 -1 255", () -> cache(one));
        OutcastBench exact = new OutcastBench();
        due("4 960 and 0", 40, () -> exact.walk(960, 64, 2));
        due("4 it is the word 0", 1, () -> exact.placeOf(0));
        OutcastBench far = new OutcastBench();
        far.walk(1023, 64, 2);
        due("4 1023 and 63", 1, () -> far.placeOf(15));
        OutcastBench before = new OutcastBench();
        before.walk(959, 64, 2);
        due("4 959 and 1023", 1, () -> before.placeOf(255));
    }

    /** walk: the same, over the start. */
    private static void walkOverTheStart() {
        OutcastBench one = new OutcastBench();
        due("4 0 and 1023", 40, () -> one.walk(0, -1, 2));
        due("4 the same two lines", "0 -1 -1 255", () -> cache(one));
        OutcastBench exact = new OutcastBench();
        exact.walk(64, -64, 2);
        due("4 64 and 0", 1, () -> exact.placeOf(0));
        OutcastBench far = new OutcastBench();
        far.walk(0, -64, 2);
        due("4 0 and 960", 1, () -> far.placeOf(240));
        OutcastBench last = new OutcastBench();
        last.walk(63, -64, 2);
        due("4 63 and 1023", 1, () -> last.placeOf(255));
    }

    /** walk: the same, on the longest way. */
    private static void walkManyTimesRound() {
        OutcastBench up = new OutcastBench();
        due("4 six times round", 2000, () -> up.walk(1023, 64, 100));
        due("4 up to the word 191", "-1 -1 -1 47 | 31 15", () -> both(up));
        OutcastBench down = new OutcastBench();
        due("4 six times back", 2000, () -> down.walk(0, -64, 100));
        due("4 down to the word 832", "208 -1 -1 -1 | 224 240", () -> both(down));
        OutcastBench lines = new OutcastBench();
        due("4 a hundred lines", 2000, () -> lines.walk(1000, 4, 100));
        due("4 up to the line 93", "92 93 90 91 | 89 88", () -> both(lines));
        OutcastBench kept = built(16, 8);
        due("4 sixteen lines of one set", 2000, () -> kept.walk(5, 64, 100));
    }

    /** walk: a step of 0 stays. */
    private static void walkOfNoStep() {
        OutcastBench x = new OutcastBench();
        due("4 step 0", 119, () -> x.walk(1023, 0, 100));
        due("4 one line only", "-1 -1 -1 255 | ", () -> both(x));
    }

    /** walk: "Returns what all these accesses cost": not what was ahead of them. */
    private static void walkAnswersItsOwnCost() {
        OutcastBench x = built(1, 1);
        x.write(0, 1);
        x.write(4, 1);
        due("4 a hit", 1, () -> x.walk(4, 0, 1));
        due("4 a swap", 3, () -> x.walk(0, 0, 1));
        due("4 a swap and a hit", 4, () -> x.walk(7, -1, 2));
        due("4 what all cost", 48, () -> x.cost());
    }

    /** walk: the same, where misses send dirty lines home. */
    private static void walkWithHomecomings() {
        OutcastBench x = built(1, 0);
        x.write(0, 1);
        due("4 a miss with a homecoming", 30, () -> x.walk(4, 0, 1));
        x.write(4, 1);
        due("4 two misses, one homecoming", 50, () -> x.walk(8, 4, 2));
        OutcastBench full = allDirty();
        due("4 eight misses, eight homecomings", 240, () -> full.walk(32 * 4, 4, 8));
    }

    /** walk: "Reads words". */
    private static void walkOnlyReads() {
        OutcastBench x = new OutcastBench();
        x.walk(0, 4, 100);
        due("4 nothing is dirty", 0, () -> x.dirty());
        due("4 nothing to bring home", 0, () -> x.bringHome());
    }

    // ---- Promises 5 to 7

    /** bringHome: "Returns how many there were": none. */
    private static void bringHomeNothing() {
        OutcastBench x = new OutcastBench();
        due("5 of an empty cache", 0, () -> x.bringHome());
        due("5 costs nothing", "0 0 0 0 0", () -> counts(x));
        x.walk(0, 4, 6);
        due("5 of clean lines", 0, () -> x.bringHome());
        due("5 clean ones cost nothing", "0 0 6 0 120", () -> counts(x));
        OutcastBench home = built(1, 0);
        home.write(0, 1);
        home.read(4);
        due("5 of one that is at home already", 0, () -> home.bringHome());
    }

    /** bringHome: "all dirty lines .. those of the cache .. those of the bench. Each costs 10." */
    private static void bringHomeAll() {
        OutcastBench x = allDirty();
        due("5 all that can be", 24, () -> x.bringHome());
        due("5 each costs 10", "0 0 24 24 720", () -> counts(x));
        for (int line = 0; line < 32; line = line == 7 ? 16 : line + 1) {
            int n = line;
            due("5 line " + line, 100 + line, () -> x.atHome(4 * n));
        }
        due("5 none is left", "0 0", () -> x.dirty() + " " + x.bringHome());
        OutcastBench ends = new OutcastBench();
        ends.write(12, 1);
        due("5 the last set alone", 1, () -> ends.bringHome());
        ends.write(12, 2);
        ends.cast(3);
        due("5 the bench alone", "1 2", () -> ends.bringHome() + " " + ends.atHome(12));
    }

    /** bringHome: "they stay where they are, clean". */
    private static void bringHomeLeavesThemThere() {
        OutcastBench x = allDirty();
        String before = both(x);
        x.bringHome();
        due("5 they stay", before, () -> both(x));
        due("5 a hit afterwards", 1, () -> x.walk(31 * 4, 0, 1));
        due("5 a swap afterwards", 3, () -> x.walk(7 * 4, 0, 1));
        due("5 a clean one goes without cost", 20, () -> x.walk(32 * 4, 0, 1));
        due("5 clean", 0, () -> x.dirty());
    }

    /** build: "Returns how many lines were forgotten": none. */
    private static void buildOfNothing() {
        OutcastBench x = new OutcastBench();
        due("6 of an empty cache", 0, () -> x.build(16, 8));
        due("6 and again", 0, () -> x.build(1, 0));
        due("6 costs nothing", "0 0 0 0 0", () -> counts(x));
    }

    /** build: "Returns how many lines were forgotten": clean ones, of the bench, all there can be. */
    private static void buildForgetsAll() {
        OutcastBench all = allDirty();
        due("6 all that can be", 24, () -> all.build(1, 0));
        OutcastBench clean = oneSet(8, 20);
        due("6 clean ones", 9, () -> clean.build(2, 2));
        OutcastBench bench = oneSet(2, 1);
        bench.cast(0);
        due("6 only on the bench", 1, () -> bench.build(1, 2));
        OutcastBench last = built(16, 0);
        last.read(1023);
        due("6 only in the last set", 1, () -> last.build(1, 0));
    }

    /** build: "all dirty lines are brought home". */
    private static void buildBringsTheDirtyHome() {
        OutcastBench x = allDirty();
        x.build(4, 2);
        due("6 each costs 10", "0 0 24 24 720", () -> counts(x));
        due("6 none is dirty", 0, () -> x.dirty());
        due("6 from the bench", 100, () -> x.atHome(0));
        due("6 from the last set", 131, () -> x.atHome(31 * 4));
        due("6 read again", 131, () -> x.read(31 * 4));
        OutcastBench clean = oneSet(2, 3);
        clean.build(4, 2);
        due("6 clean ones cost nothing", "0 0 3 0 60", () -> counts(clean));
    }

    /** build: "both are empty then". */
    private static void buildLeavesBothEmpty() {
        OutcastBench x = allDirty();
        x.build(1, 0);
        due("6 one set and no places", "-1 | ", () -> both(x));
        x.build(16, 8);
        due("6 the old lines do not come again", "-1 ".repeat(16) + "| ", () -> both(x));
        due("6 nor on the bench", NO_INDEX, () -> x.lineOnBench(0));
        due("6 a miss again", 20, () -> x.walk(4 * 20, 0, 1));
        due("6 and from the bench", 20, () -> x.walk(4 * 3, 0, 1));
    }

    /** build: "What was counted so far, and the last accesses, stay." */
    private static void buildKeepsWhatWasCounted() {
        OutcastBench x = oneSet(2, 3);
        x.walk(4, 0, 2);
        due("6 before", "1 1 3 0 64", () -> counts(x));
        x.build(8, 1);
        due("6 what was counted stays", "1 1 3 0 64", () -> counts(x));
        due("6 the last accesses stay", 64, () -> x.wouldCost(1, 2));
        x.read(0);
        due("6 and go on", 67, () -> x.wouldCost(1, 2));
    }

    /** build: "both are empty then", with the size that there was, too. */
    private static void buildOfTheSameSize() {
        OutcastBench x = new OutcastBench();
        x.walk(0, 4, 5);
        due("6 the same size", 5, () -> x.build(4, 2));
        due("6 empty with the same size", "-1 -1 -1 -1 | ", () -> both(x));
    }

    /** build: "sets: 1, 2, 4, 8 or 16", "places: 0 to 8". */
    private static void buildOfEachSize() {
        for (int sets : ALL_SETS) {
            for (int places = 0; places <= 8; places++) {
                int n = places;
                OutcastBench x = new OutcastBench();
                due("6 build(" + sets + ", " + places + ")", 0, () -> x.build(sets, n));
                due("6 its size", sets + " " + n, () -> x.sets() + " " + x.places());
                x.walk(0, 4, 100);
                due("6 all of it is used", sets + n, () -> x.build(4, 2));
            }
        }
    }

    /** build: "if sets or places is not so". */
    private static void buildOfNoSize() {
        OutcastBench x = new OutcastBench();
        for (int sets : noSets()) {
            due("6 build(" + sets + ", 0)", NO_ARGUMENT, () -> x.build(sets, 0));
            due("6 build(" + sets + ", 9)", NO_ARGUMENT, () -> x.build(sets, 9));
        }
        for (int places : new int[] {-1, -2, -8, 9, 10, 16, LOW, HIGH}) {
            for (int sets : ALL_SETS) {
                due("6 build(" + sets + ", " + places + ")", NO_ARGUMENT, () -> x.build(sets, places));
            }
        }
    }

    private static List<Integer> noSets() {
        List<Integer> none = new ArrayList<>(List.of(LOW, -16, -8, -4, -2, -1, 32, 64, 1 << 30, HIGH));
        for (int sets = 0; sets <= 33; sets++) {
            if (sets != 1 && sets != 2 && sets != 4 && sets != 8 && sets != 16) {
                none.add(sets);
            }
        }
        return none;
    }

    /** cast: "set: from 0"; "if there is no such set". */
    private static void castFirstAndLastSet() {
        for (int sets : ALL_SETS) {
            OutcastBench x = built(sets, 8);
            x.walk(0, 4, 16);
            due("7 cast(0) of " + sets, 16 - sets, () -> x.cast(0));
            if (sets > 1) {
                due("7 the last of " + sets, 15, () -> x.cast(sets - 1));
            }
            for (int set : new int[] {-1, sets, sets + 1, 2 * sets, 99, LOW, HIGH}) {
                due("7 cast(" + set + ") of " + sets, NO_INDEX, () -> x.cast(set));
            }
        }
    }

    /** cast: "if it is empty". */
    private static void castFromEmptySet() {
        OutcastBench x = new OutcastBench();
        due("7 never used", NO_STATE, () -> x.cast(0));
        due("7 no such set, though all are empty", NO_INDEX, () -> x.cast(4));
        x.read(12);
        due("7 line 3", 3, () -> x.cast(3));
        due("7 a second time", NO_STATE, () -> x.cast(3));
        due("7 it sits", "-1 -1 -1 -1 | 3", () -> both(x));
        x.read(16);
        due("7 line 4, not the set", 4, () -> x.cast(0));
        OutcastBench zero = new OutcastBench();
        zero.read(0);
        due("7 line 0 is a line", 0, () -> zero.cast(0));
        due("7 not a second time", NO_STATE, () -> zero.cast(0));
    }

    /** cast: "as by a miss", onto a bench with room. */
    private static void castOntoBenchWithRoom() {
        OutcastBench x = new OutcastBench();
        x.write(0, 1);
        x.write(4, 1);
        x.cast(0);
        x.cast(1);
        due("7 as the youngest", "-1 -1 -1 -1 | 1 0", () -> both(x));
        due("7 without cost", "0 0 2 0 40", () -> counts(x));
        due("7 dirty still", 2, () -> x.dirty());
    }

    /** cast: "as by a miss", onto a full bench: the oldest one goes home. */
    private static void castOntoFullBench() {
        for (int places = 1; places <= 8; places++) {
            int full = places;
            OutcastBench x = built(1, places);
            for (int line = 0; line <= places; line++) {
                x.write(4 * line, 1);
            }
            due("7 onto " + places + " full places", full, () -> x.cast(0));
            due("7 full still with " + places, full, () -> x.sitting());
            due("7 the youngest of " + places, full, () -> x.lineOnBench(0));
            due("7 the oldest of " + places, 1, () -> x.lineOnBench(full - 1));
            due("7 the oldest went home from " + places, "0 1", () -> x.placeOf(0) + " " + x.atHome(0));
            due("7 that costs 10", "0 0 " + (full + 1) + " 1 " + (20 * full + 30), () -> counts(x));
        }
        OutcastBench clean = oneSet(1, 2);
        clean.cast(0);
        due("7 a clean one goes without cost", "0 0 2 0 40", () -> counts(clean));
    }

    /** cast: "as by a miss", with a bench of no places: it goes home at once. */
    private static void castWithoutPlaces() {
        OutcastBench x = built(2, 0);
        x.write(0, 6);
        x.read(4);
        due("7 a dirty one without places", 0, () -> x.cast(0));
        due("7 it is home", "0 false 6", () -> x.placeOf(0) + " " + x.isDirty(0) + " " + x.atHome(0));
        due("7 a clean one without places", 1, () -> x.cast(1));
        due("7 one homecoming", "0 0 2 1 50", () -> counts(x));
        due("7 no one sits", "-1 -1 | ", () -> both(x));
    }

    /** cast is among "care", no access: it is not counted, and not among the last ones. */
    private static void castIsNoAccess() {
        OutcastBench x = oneSet(2, 1);
        x.cast(0);
        due("7 no hit, swap or miss", "0 0 1 0 20", () -> counts(x));
        due("7 not among the last accesses", 20, () -> x.wouldCost(1, 0));
        x.read(0);
        due("7 there it would be a hit", "21 23", () -> x.wouldCost(1, 0) + " " + x.cost());
    }

    // ---- Promises 8 to 17

    /** sets, places: the fewest and the most; a refused build leaves them. */
    private static void setsAndPlacesAfterBuild() {
        OutcastBench x = built(1, 0);
        due("8 9 the fewest", "1 0", () -> x.sets() + " " + x.places());
        x.build(16, 8);
        due("8 9 the most", "16 8", () -> x.sets() + " " + x.places());
        due("8 9 refused", NO_ARGUMENT, () -> x.build(2, 9));
        due("8 9 refused, too", NO_ARGUMENT, () -> x.build(3, 1));
        due("8 9 as they were", "16 8", () -> x.sets() + " " + x.places());
    }

    /** lineIn: "set: from 0"; "-1 if the set is empty"; "if there is no such set". */
    private static void lineInFirstAndLastSet() {
        for (int sets : ALL_SETS) {
            OutcastBench x = built(sets, 1);
            due("10 the first of " + sets + " empty", -1, () -> x.lineIn(0));
            due("10 the last of " + sets + " empty", -1, () -> x.lineIn(sets - 1));
            x.read(0);
            x.read(1023);
            due("10 the first of " + sets, sets == 1 ? 255 : 0, () -> x.lineIn(0));
            due("10 the last of " + sets, 255, () -> x.lineIn(sets - 1));
            for (int set : new int[] {-1, sets, sets + 1, 2 * sets, 255, LOW, HIGH}) {
                due("10 lineIn(" + set + ") of " + sets, NO_INDEX, () -> x.lineIn(set));
            }
            x.cast(sets - 1);
            due("10 empty again", -1, () -> x.lineIn(sets - 1));
        }
    }

    /** sitting: from none to as many as there are places, and no more. */
    private static void sittingFromNoneToAll() {
        for (int places = 0; places <= 8; places++) {
            OutcastBench x = built(1, places);
            due("11 none on " + places, 0, () -> x.sitting());
            for (int line = 0; line < 11; line++) {
                x.read(4 * line);
                int want = Math.min(line, places);
                due("11 on " + places + " after line " + line, want, () -> x.sitting());
            }
            int before = places == 0 ? 0 : places - 1;
            x.cast(0);
            x.read(40);
            due("11 one fewer on " + places, before, () -> x.sitting());
        }
    }

    /** lineOnBench: "age: 0 for the youngest one"; "if there are not so many". */
    private static void lineOnBenchYoungestAndOldest() {
        for (int sitting = 0; sitting <= 8; sitting++) {
            OutcastBench x = oneSet(8, sitting + 1);
            for (int k = 0; k < sitting; k++) {
                int age = k;
                due("12 age " + k + " of " + sitting, sitting - 1 - k, () -> x.lineOnBench(age));
            }
            for (int age : new int[] {-1, sitting, sitting + 1, 8, 9, LOW, HIGH}) {
                due("12 age " + age + " of " + sitting, NO_INDEX, () -> x.lineOnBench(age));
            }
        }
        OutcastBench left = oneSet(2, 3);
        left.cast(0);
        left.read(4);
        due("12 who is left", 2, () -> left.lineOnBench(0));
        due("12 one who left", NO_INDEX, () -> left.lineOnBench(1));
    }

    /** placeOf: "line: 0 to 255"; "if there is no such line". */
    private static void placeOfFirstAndLastLine() {
        OutcastBench x = new OutcastBench();
        due("13 line 0 at first", 0, () -> x.placeOf(0));
        due("13 line 255 at first", 0, () -> x.placeOf(255));
        x.read(0);
        x.read(1023);
        due("13 line 0", 1, () -> x.placeOf(0));
        due("13 line 255", 1, () -> x.placeOf(255));
        for (int line : NO_LINES) {
            due("13 placeOf(" + line + ")", NO_INDEX, () -> x.placeOf(line));
        }
    }

    /** placeOf: "0: only in the memory; 1: in the cache; 2: on the bench". */
    private static void placeOfEachKind() {
        OutcastBench x = oneSet(8, 10);
        due("13 the one that went home", 0, () -> x.placeOf(0));
        for (int n = 1; n < 9; n++) {
            int line = n;
            due("13 line " + n + " on the bench", 2, () -> x.placeOf(line));
        }
        due("13 the one in the cache", 1, () -> x.placeOf(9));
        due("13 one that never came", 0, () -> x.placeOf(10));
        x.cast(0);
        due("13 the one that was cast", 2, () -> x.placeOf(9));
        due("13 the one that made room", 0, () -> x.placeOf(1));
        x.read(4 * 9);
        due("13 the one that came back", 1, () -> x.placeOf(9));
        x.build(1, 8);
        due("13 after build", "0 0", () -> x.placeOf(9) + " " + x.placeOf(2));
    }

    /** isDirty: "line: 0 to 255"; "if there is no such line". */
    private static void isDirtyFirstAndLastLine() {
        OutcastBench x = new OutcastBench();
        due("14 line 0 at first", false, () -> x.isDirty(0));
        due("14 line 255 at first", false, () -> x.isDirty(255));
        x.write(0, 1);
        x.write(1023, 1);
        due("14 line 0", true, () -> x.isDirty(0));
        due("14 line 255", true, () -> x.isDirty(255));
        for (int line : NO_LINES) {
            due("14 isDirty(" + line + ")", NO_INDEX, () -> x.isDirty(line));
        }
    }

    /** isDirty: "false, too, if it is only in the memory". */
    private static void isDirtyOnlyInTheMemory() {
        OutcastBench x = built(1, 1);
        due("14 never came", false, () -> x.isDirty(0));
        x.write(0, 1);
        x.read(4);
        due("14 on the bench", true, () -> x.isDirty(0));
        x.read(8);
        due("14 gone home", "0 false", () -> x.placeOf(0) + " " + x.isDirty(0));
        x.write(12, 1);
        x.build(1, 1);
        due("14 after build", "0 false", () -> x.placeOf(3) + " " + x.isDirty(3));
    }

    /** dirty: from none to all that the cache and the bench can hold. */
    private static void dirtyFromNoneToAll() {
        due("15 none", 0, () -> new OutcastBench().dirty());
        for (int line : new int[] {0, 255}) {
            OutcastBench one = new OutcastBench();
            one.write(4 * line, 1);
            due("15 only line " + line, 1, () -> one.dirty());
        }
        OutcastBench x = allDirty();
        due("15 all", 24, () -> x.dirty());
        x.write(127, 1);
        due("15 a second word", 24, () -> x.dirty());
        x.write(132, 1);
        due("15 one came, one went home", 24, () -> x.dirty());
        x.read(136);
        due("15 a clean one came, one went home", 23, () -> x.dirty());
        x.bringHome();
        due("15 none again", 0, () -> x.dirty());
    }

    /** atHome: "address: 0 to 1023"; "if there is no such word". */
    private static void atHomeFirstAndLastWord() {
        OutcastBench x = new OutcastBench();
        x.write(0, 1);
        x.write(1023, 2);
        due("16 not yet home", "0 0", () -> x.atHome(0) + " " + x.atHome(1023));
        x.bringHome();
        due("16 home", "1 2", () -> x.atHome(0) + " " + x.atHome(1023));
        for (int address : NO_WORDS) {
            due("16 atHome(" + address + ")", NO_INDEX, () -> x.atHome(address));
        }
    }

    /** atHome: "A word as it is in the memory, whatever was written". */
    private static void atHomeWhateverWasWritten() {
        OutcastBench x = new OutcastBench();
        x.write(5, 1);
        x.write(5, 2);
        due("16 twice written", 0, () -> x.atHome(5));
        x.bringHome();
        x.write(6, 3);
        due("16 the word that came home", 2, () -> x.atHome(5));
        due("16 its neighbour did not", 0, () -> x.atHome(6));
        x.write(5, 4);
        x.write(5, 2);
        due("16 written to and fro", 2, () -> x.atHome(5));
        x.write(5, LOW);
        x.cast(1);
        due("16 from the bench it is not home", 2, () -> x.atHome(5));
        x.build(1, 0);
        due("16 all words come home", LOW + " 3", () -> x.atHome(5) + " " + x.atHome(6));
    }

    /** peek: "address: 0 to 1023"; "if there is no such word". */
    private static void peekFirstAndLastWord() {
        OutcastBench x = new OutcastBench();
        x.write(0, 1);
        x.write(1023, 2);
        due("17 both ends", "1 2", () -> x.peek(0) + " " + x.peek(1023));
        for (int address : NO_WORDS) {
            due("17 peek(" + address + ")", NO_INDEX, () -> x.peek(address));
        }
    }

    /** peek: "A word as the program would read it". */
    private static void peekWherever() {
        OutcastBench x = built(1, 1);
        due("17 never written", 0, () -> x.peek(3));
        x.write(3, 9);
        due("17 in the cache", "1 9", () -> x.placeOf(0) + " " + x.peek(3));
        x.read(4);
        due("17 on the bench", "2 9", () -> x.placeOf(0) + " " + x.peek(3));
        x.read(8);
        due("17 in the memory", "0 9", () -> x.placeOf(0) + " " + x.peek(3));
    }

    /** atHome, peek: "this is no access". */
    private static void looksAreNoAccess() {
        OutcastBench x = oneSet(2, 4);
        x.write(12, 1);
        String before = both(x) + " " + counts(x);
        for (int address = 0; address < 20; address += 4) {
            x.peek(address);
            x.atHome(address);
        }
        due("16 17 nothing moves or counts", before, () -> both(x) + " " + counts(x));
        due("16 17 not among the last accesses", 81, () -> x.wouldCost(1, 0));
    }

    // ---- Promises 18 to 24

    /** A new object has counted nothing. */
    private static void countsAtFirst() {
        due("18 to 22 at first", "0 0 0 0 0", () -> counts(new OutcastBench()));
    }

    /** homecomings: "clean lines do not count". */
    private static void cleanLinesDoNotCount() {
        OutcastBench x = oneSet(1, 4);
        due("21 gone home by misses", 0, () -> x.homecomings());
        x.cast(0);
        due("21 by cast", 0, () -> x.homecomings());
        x.bringHome();
        due("21 by bringHome", 0, () -> x.homecomings());
        x.build(1, 0);
        due("21 by build", 0, () -> x.homecomings());
        x.read(0);
        x.read(4);
        x.cast(0);
        due("21 without places", "0 0 6 0 120", () -> counts(x));
    }

    /** wouldCost: "up to 150": none. */
    private static void wouldCostOfNothing() {
        OutcastBench x = new OutcastBench();
        due("23 without accesses", 0, () -> x.wouldCost(1, 0));
        x.build(16, 8);
        x.bringHome();
        due("23 care is no access", 0, () -> x.wouldCost(16, 8));
    }

    /** wouldCost: "up to 150": one. */
    private static void wouldCostOfOne() {
        OutcastBench read = new OutcastBench();
        read.read(1023);
        due("23 one read", 20, () -> read.wouldCost(1, 0));
        OutcastBench write = new OutcastBench();
        write.write(1023, 1);
        due("23 one write", 20, () -> write.wouldCost(1, 0));
    }

    /** wouldCost: "empty ahead of the first of these". */
    private static void wouldCostEmptyAheadOfTheFirst() {
        OutcastBench x = new OutcastBench();
        x.read(0);
        x.walk(0, 0, 100);
        x.walk(0, 0, 100);
        due("23 the first of the last is a miss", 20 + 149, () -> x.wouldCost(4, 2));
        due("23 and with another size", 20 + 149, () -> x.wouldCost(16, 8));
        due("23 and again", 20 + 149, () -> x.wouldCost(4, 2));
    }

    /** wouldCost: "up to 150": 149, 150 and 151 of them, and many times as many. */
    private static void wouldCostOf150() {
        OutcastBench x = new OutcastBench();
        x.read(16);
        x.walk(0, 0, 100);
        x.walk(0, 0, 48);
        due("23 149", 20 + 20 + 147, () -> x.wouldCost(1, 0));
        x.read(0);
        due("23 150", 20 + 20 + 148, () -> x.wouldCost(1, 0));
        x.read(0);
        due("23 151", 20 + 149, () -> x.wouldCost(1, 0));
        for (int round = 0; round < 5; round++) {
            x.read(16);
            due("23 the newest counts", 149 + 20 + 19, () -> x.wouldCost(1, 0));
            x.walk(0, 0, 100);
            x.walk(0, 0, 49);
            due("23 it is the 150th", 20 + 20 + 148, () -> x.wouldCost(1, 0));
            x.read(0);
            due("23 it is the 151st", 20 + 149, () -> x.wouldCost(1, 0));
        }
    }

    /** wouldCost: "each with its line, and whether it wrote". */
    private static void wouldCostOfTheWriteThatIsTheFirst() {
        OutcastBench x = new OutcastBench();
        x.write(0, 1);
        x.walk(0, 0, 100);
        x.walk(0, 0, 47);
        x.walk(4, 0, 2);
        due("23 the write is the 150th", 20 + 147 + 30 + 1, () -> x.wouldCost(1, 0));
        x.read(4);
        due("23 the write is the 151st", 20 + 146 + 20 + 2, () -> x.wouldCost(1, 0));
        x.write(0, 1);
        x.read(4);
        due("23 a write in the old one's stead", 20 + 144 + 20 + 2 + 20 + 30, () -> x.wouldCost(1, 0));
        OutcastBench hit = new OutcastBench();
        hit.read(0);
        hit.write(0, 1);
        hit.read(0);
        hit.read(4);
        due("23 a write that is a hit", 20 + 1 + 1 + 30, () -> hit.wouldCost(1, 0));
        OutcastBench swap = new OutcastBench();
        swap.read(0);
        swap.read(4);
        swap.write(0, 1);
        swap.walk(4, 4, 4);
        due("23 a write that is a swap", 20 + 20 + 3 + 3 + 30 + 20 + 20, () -> swap.wouldCost(1, 1));
    }

    /** wouldCost: the accesses of a walk are accesses of their own. */
    private static void wouldCostOfAWalkOverTheEdge() {
        OutcastBench x = new OutcastBench();
        x.walk(0, 4, 100);
        x.walk(0, 0, 100);
        due("23 half of a walk", 50 * 20 + 20 + 99, () -> x.wouldCost(1, 0));
        x.walk(0, 0, 49);
        due("23 one of a walk", 20 + 20 + 148, () -> x.wouldCost(1, 0));
        x.walk(0, 0, 1);
        due("23 nothing of a walk", 20 + 149, () -> x.wouldCost(1, 0));
    }

    /** wouldCost: "with nothing but them". */
    private static void wouldCostWithNothingButThem() {
        OutcastBench x = built(1, 1);
        x.write(0, 1);
        x.bringHome();
        x.cast(0);
        x.read(4);
        x.build(1, 2);
        x.read(0);
        due("23 no care between", 20 + 30 + 20, () -> x.wouldCost(1, 0));
        due("23 nor with a bench", 20 + 20 + 3, () -> x.wouldCost(1, 1));
        OutcastBench same = built(2, 3);
        same.walk(0, 4, 20);
        same.write(7, 1);
        same.walk(900, -28, 60);
        due("23 with the size there is it is what it cost", same.cost(), () -> same.wouldCost(2, 3));
    }

    /** wouldCost: "without bringing home what is dirty at the end". */
    private static void wouldCostDirtyAtTheEnd() {
        OutcastBench x = allDirty();
        due("23 24 dirty at the end", 24 * 20, () -> x.wouldCost(16, 8));
        due("23 nothing is brought home", "24 0", () -> x.dirty() + " " + x.homecomings());
        due("23 one is left in one set", 24 * 20 + 23 * 10, () -> x.wouldCost(1, 0));
        due("23 nine are left", 24 * 20 + 15 * 10, () -> x.wouldCost(1, 8));
        due("23 clean ahead of the next", 24 * 20, () -> x.wouldCost(16, 8));
        x.bringHome();
        due("23 brought home it is the same", 24 * 20, () -> x.wouldCost(16, 8));
        for (int line : new int[] {0, 255}) {
            OutcastBench late = new OutcastBench();
            late.read(4 * line);
            late.read(8);
            late.write(4 * line, 1);
            due("23 line " + line + " dirty at the end", 60, () -> late.wouldCost(1, 0));
            due("23 line " + line + " clean ahead of the next", 60, () -> late.wouldCost(1, 0));
        }
    }

    /** wouldCost: "sets: 1, 2, 4, 8 or 16", "places: 0 to 8": each size has room for just so much. */
    private static void wouldCostOfEachSize() {
        for (int sets : ALL_SETS) {
            for (int places = 0; places <= 8; places++) {
                int n = places;
                String size = "23 wouldCost(" + sets + ", " + places + ")";
                int misses = 20 * (sets + places);
                int back = places == 0 ? 1 : 3;
                due(size + ", just room enough", misses + 1 + back,
                        () -> backAfterThrows(sets, n).wouldCost(sets, n));
                due(size + ", one line too many", misses + 20 + 1 + 20,
                        () -> backAfterThrows(sets, n + 1).wouldCost(sets, n));
            }
        }
    }

    /** A line in each set; then so many throws from the first set, and its first line again. */
    private static OutcastBench backAfterThrows(int sets, int thrown) {
        OutcastBench x = new OutcastBench();
        x.walk(0, 4, sets);
        x.walk(0, 4 * sets, thrown + 1);
        x.read(0);
        return x;
    }

    /** wouldCost: "if sets or places is not so". */
    private static void wouldCostOfNoSize() {
        OutcastBench x = new OutcastBench();
        x.read(0);
        for (int sets : noSets()) {
            due("23 wouldCost(" + sets + ", 0)", NO_ARGUMENT, () -> x.wouldCost(sets, 0));
            due("23 wouldCost(" + sets + ", 9)", NO_ARGUMENT, () -> x.wouldCost(sets, 9));
        }
        for (int places : new int[] {-1, -2, -8, 9, 10, 16, LOW, HIGH}) {
            for (int sets : ALL_SETS) {
                due("23 wouldCost(" + sets + ", " + places + ")", NO_ARGUMENT,
                        () -> x.wouldCost(sets, places));
            }
        }
    }

    /** bestPlaces: "The fewest places": without accesses all cost the same. */
    private static void bestPlacesOfNothing() {
        due("24 without accesses", 0, () -> new OutcastBench().bestPlaces());
        OutcastBench x = built(1, 8);
        due("24 with a bench built", 0, () -> x.bestPlaces());
        x.read(0);
        due("24 with one access", 0, () -> x.bestPlaces());
    }

    /** bestPlaces: "The fewest places with which the last accesses would have cost the least". */
    private static void bestPlacesTheFewest() {
        OutcastBench late = built(1, 0);
        late.write(0, 1);
        late.walk(4, 4, 3);
        due("24 three keep the dirty one", 3, () -> late.bestPlaces());
        OutcastBench far = built(1, 0);
        far.walk(0, 4, 3);
        far.walk(0, 0, 1);
        due("24 two are as good as eight", 2, () -> far.bestPlaces());
        due("24 it is so", 63 + 63, () -> far.wouldCost(1, 2) + far.wouldCost(1, 8));
        due("24 one is too few", 80, () -> far.wouldCost(1, 1));
    }

    /** bestPlaces: every answer there is, and what no bench can help. */
    private static void bestPlacesFromNoneToAll() {
        for (int best = 0; best <= 8; best++) {
            OutcastBench x = built(1, 0);
            x.walk(0, 4, best + 1);
            x.read(0);
            int want = best;
            due("24 the first of " + (best + 1) + " comes again", want, () -> x.bestPlaces());
        }
        OutcastBench nine = built(1, 8);
        nine.walk(0, 4, 10);
        nine.read(0);
        due("24 nine places are not to be had", 0, () -> nine.bestPlaces());
    }

    /** bestPlaces: "with as many sets as there are". */
    private static void bestPlacesWithTheSetsThereAre() {
        int[] want = {4, 3, 1, 0, 0};
        for (int k = 0; k < ALL_SETS.length; k++) {
            OutcastBench x = built(ALL_SETS[k], 2);
            x.walk(0, 4, 5);
            x.read(0);
            int best = want[k];
            due("24 with " + ALL_SETS[k] + " sets", best, () -> x.bestPlaces());
        }
        OutcastBench later = built(1, 0);
        later.walk(0, 4, 5);
        later.read(0);
        later.build(16, 0);
        due("24 built after the accesses", 0, () -> later.bestPlaces());
        later.build(1, 8);
        due("24 and back", 4, () -> later.bestPlaces());
    }
}
