import java.util.ArrayList;
import java.util.List;

/**
 * "A call that throws an exception changes nothing; if several exceptions apply, the one that is
 * named first in the throws clause is thrown.": each refused call is made on an object that has
 * been used, and all that can be asked of it is compared with an object that was not so called.
 */
public final class RefusedTest {
    private static final String NO_INDEX = "throws.IndexOutOfBoundsException";
    private static final String NO_ARGUMENT = "throws.IllegalArgumentException";
    private static final String NO_STATE = "throws.IllegalStateException";
    private static final int LOW = Integer.MIN_VALUE;
    private static final int HIGH = Integer.MAX_VALUE;
    private static final int[] ALL_SETS = {1, 2, 4, 8, 16};

    /** As many as it takes to ask for everything with at most 512 calls of an object. */
    private static final int PARTS = 9;

    public static void main(String[] args) {
        for (Refused refused : refusedCalls()) {
            for (Stage stage : Stage.values()) {
                changesNothing(stage, refused);
            }
        }
        for (Refused refused : refusedOnceUsed()) {
            changesNothing(Stage.USED, refused);
            changesNothing(Stage.MANY_ACCESSES, refused);
        }
        firstNamedIsThrown();
        goesOnAsIfNotCalled();
        Check.end("RefusedTest");
    }

    /** An object's call that must be refused. */
    private interface Call {
        Object on(OutcastBench x);
    }

    private record Refused(String what, String want, Call call) {
    }

    private enum Stage { NEW, USED, MANY_ACCESSES, NO_PLACES }

    private static OutcastBench at(Stage stage) {
        OutcastBench x = new OutcastBench();
        switch (stage) {
            case NEW -> { }
            case USED -> use(x);
            case MANY_ACCESSES -> {
                x.walk(0, 4, 100);
                use(x);
                x.walk(8, 20, 90);
                use(x);
            }
            case NO_PLACES -> {
                x.build(2, 0);
                x.write(9, 1);
                x.write(5, 2);
                x.bringHome();
                x.write(5, 3);
                x.cast(0);
            }
        }
        return x;
    }

    /** Then the bench is full, dirty lines are on it and in the cache, and the set 2 is empty. */
    private static void use(OutcastBench x) {
        for (int k = 0; k < 8; k++) {
            x.write(37 * k, 1000 + k);
        }
        x.bringHome();
        x.write(1023, HIGH);
        x.write(4, LOW);
        x.write(8, 3);
        x.read(1);
        x.write(20, 4);
        x.cast(2);
    }

    private static List<Refused> refusedCalls() {
        List<Refused> all = new ArrayList<>();
        for (int address : new int[] {-1, 1024, -1024, LOW, HIGH}) {
            all.add(new Refused("read(" + address + ")", NO_INDEX, x -> x.read(address)));
            all.add(new Refused("write(" + address + ", 5)", NO_INDEX, x -> x.write(address, 5)));
            all.add(new Refused("walk(" + address + ", 1, 3)", NO_INDEX, x -> x.walk(address, 1, 3)));
            all.add(new Refused("atHome(" + address + ")", NO_INDEX, x -> x.atHome(address)));
            all.add(new Refused("peek(" + address + ")", NO_INDEX, x -> x.peek(address)));
        }
        for (int step : new int[] {-65, 65, LOW, HIGH}) {
            all.add(new Refused("walk(0, " + step + ", 3)", NO_ARGUMENT, x -> x.walk(0, step, 3)));
        }
        for (int count : new int[] {0, -1, 101, LOW, HIGH}) {
            all.add(new Refused("walk(0, 1, " + count + ")", NO_ARGUMENT, x -> x.walk(0, 1, count)));
        }
        for (int line : new int[] {-1, 256, LOW, HIGH}) {
            all.add(new Refused("placeOf(" + line + ")", NO_INDEX, x -> x.placeOf(line)));
            all.add(new Refused("isDirty(" + line + ")", NO_INDEX, x -> x.isDirty(line)));
        }
        for (int set : new int[] {-1, 4, 16, LOW, HIGH}) {
            all.add(new Refused("cast(" + set + ")", NO_INDEX, x -> x.cast(set)));
            all.add(new Refused("lineIn(" + set + ")", NO_INDEX, x -> x.lineIn(set)));
        }
        for (int age : new int[] {-1, 2, LOW, HIGH}) {
            all.add(new Refused("lineOnBench(" + age + ")", NO_INDEX, x -> x.lineOnBench(age)));
        }
        all.addAll(refusedSizes());
        return all;
    }

    private static List<Refused> refusedSizes() {
        List<Refused> all = new ArrayList<>();
        for (int sets : new int[] {0, -1, 3, 12, 17, 32, LOW, HIGH}) {
            all.add(new Refused("build(" + sets + ", 1)", NO_ARGUMENT, x -> x.build(sets, 1)));
            all.add(new Refused("wouldCost(" + sets + ", 1)", NO_ARGUMENT, x -> x.wouldCost(sets, 1)));
        }
        for (int places : new int[] {-1, 9, LOW, HIGH}) {
            all.add(new Refused("build(2, " + places + ")", NO_ARGUMENT, x -> x.build(2, places)));
            all.add(new Refused("wouldCost(2, " + places + ")", NO_ARGUMENT, x -> x.wouldCost(2, places)));
            all.add(new Refused("build(3, " + places + ")", NO_ARGUMENT, x -> x.build(3, places)));
        }
        return all;
    }

    private static List<Refused> refusedOnceUsed() {
        List<Refused> all = new ArrayList<>();
        all.add(new Refused("cast(2)", NO_STATE, x -> x.cast(2)));
        return all;
    }

    private static void changesNothing(Stage stage, Refused refused) {
        String what = stage + ": " + refused.what;
        for (int part = 0; part < PARTS; part++) {
            OutcastBench x = at(stage);
            Check.due(what, refused.want, () -> refused.call.on(x));
            String want = told(at(stage), part);
            int n = part;
            Check.due(what + " changes nothing of part " + part, want, () -> told(x, n));
        }
    }

    /** A part of all that can be asked: counts and sizes, lines, words at home, words as they are read. */
    private static String told(OutcastBench x, int part) {
        return switch (part) {
            case 0 -> counted(x);
            case 1, 2 -> ofLines(x, part == 1);
            default -> ofWords(x, (part - 3) % 3 * 342, part < 6);
        };
    }

    private static String counted(OutcastBench x) {
        StringBuilder text = new StringBuilder();
        int sets = x.sets();
        int sitting = x.sitting();
        text.append(sets).append(' ').append(x.places()).append(" |");
        for (int set = 0; set < sets; set++) {
            text.append(' ').append(x.lineIn(set));
        }
        text.append(" |");
        for (int age = 0; age < sitting; age++) {
            text.append(' ').append(x.lineOnBench(age));
        }
        text.append(" | ").append(x.dirty()).append(' ').append(x.hits()).append(' ').append(x.swaps());
        text.append(' ').append(x.misses()).append(' ').append(x.homecomings());
        text.append(' ').append(x.cost()).append(' ').append(x.bestPlaces()).append(" |");
        for (int otherSets : ALL_SETS) {
            for (int places = 0; places <= 8; places++) {
                text.append(' ').append(x.wouldCost(otherSets, places));
            }
        }
        return text.toString();
    }

    private static String ofLines(OutcastBench x, boolean places) {
        StringBuilder text = new StringBuilder();
        for (int line = 0; line < 256; line++) {
            text.append(places ? x.placeOf(line) : x.isDirty(line) ? 1 : 0);
        }
        return text.toString();
    }

    private static String ofWords(OutcastBench x, int first, boolean atHome) {
        StringBuilder text = new StringBuilder();
        for (int address = first; address < Math.min(1024, first + 342); address++) {
            text.append(atHome ? x.atHome(address) : x.peek(address)).append(' ');
        }
        return text.toString();
    }

    /** "if several exceptions apply, the one that is named first in the throws clause is thrown". */
    private static void firstNamedIsThrown() {
        OutcastBench x = at(Stage.NO_PLACES);
        for (int from : new int[] {-1, 1024, LOW, HIGH}) {
            for (int step : new int[] {-65, 65, LOW, HIGH}) {
                Check.due("walk(" + from + ", " + step + ", 1)", NO_INDEX, () -> x.walk(from, step, 1));
                Check.due("walk(" + from + ", " + step + ", 0)", NO_INDEX, () -> x.walk(from, step, 0));
            }
            for (int count : new int[] {0, 101, LOW, HIGH}) {
                Check.due("walk(" + from + ", 1, " + count + ")", NO_INDEX, () -> x.walk(from, 1, count));
            }
        }
        for (int set : new int[] {-1, 2, LOW, HIGH}) {
            Check.due("cast(" + set + ") of no such set", NO_INDEX, () -> x.cast(set));
        }
        Check.due("cast(0) of an empty set", NO_STATE, () -> x.cast(0));
        OutcastBench fresh = new OutcastBench();
        Check.due("cast(4) of an empty cache", NO_INDEX, () -> fresh.cast(4));
        Check.due("cast(3) of an empty cache", NO_STATE, () -> fresh.cast(3));
    }

    /** What comes after many refused calls is as if none had been made. */
    private static void goesOnAsIfNotCalled() {
        OutcastBench x = at(Stage.USED);
        for (Refused refused : refusedCalls()) {
            Check.due("one after the other: " + refused.what, refused.want, () -> refused.call.on(x));
        }
        OutcastBench y = at(Stage.USED);
        for (OutcastBench each : List.of(x, y)) {
            each.walk(3, -13, 50);
            use(each);
            each.build(8, 3);
            each.walk(1000, 7, 60);
        }
        String want = counted(y);
        Check.due("after many refused calls", want, () -> counted(x));
    }
}
