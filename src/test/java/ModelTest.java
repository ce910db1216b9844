import java.util.ArrayDeque;
import java.util.ArrayList;
import java.util.Arrays;
import java.util.Iterator;
import java.util.List;
import java.util.Random;

/**
 * Long runs of calls, each compared with a model that is built otherwise: there a line is an
 * object with words of its own that are carried to and fro.
 */
public final class ModelTest {
    private static final int RUNS = 600;
    /** As many as an object is used for, with the looks at the end. */
    private static final int CALLS = 512;
    private static final int LOOKS_AT_THE_END = 10;
    private static final int[] ALL_SETS = {1, 2, 4, 8, 16};

    public static void main(String[] args) {
        for (int seed = 0; seed < RUNS; seed++) {
            new Run(seed).play();
        }
        Check.end("ModelTest");
    }

    /** One object and its model; the seed makes every run the same each time. */
    private static final class Run {
        private final int seed;
        private final Random random;
        private final OutcastBench real = new OutcastBench();
        private final Model model = new Model(4, 2);
        /** How far apart the addresses lie: few lines make many swaps, many lines many misses. */
        private final int reach;
        private int call = 0;

        Run(int seed) {
            this.seed = seed;
            random = new Random(seed);
            reach = new int[] {40, 100, 300, 1024}[seed % 4];
        }

        void play() {
            while (call < CALLS - LOOKS_AT_THE_END) {
                change();
                look();
            }
            due("hits", model.hits, real::hits);
            due("swaps", model.swaps, real::swaps);
            due("misses", model.misses, real::misses);
            due("homecomings", model.homecomings, real::homecomings);
            due("cost", model.cost, real::cost);
            due("sitting", model.bench.size(), real::sitting);
            due("dirty", model.dirty(), real::dirty);
            due("sets", model.sets, real::sets);
            due("places", model.places, real::places);
            due("bestPlaces", model.bestPlaces(), real::bestPlaces);
        }

        private void due(String what, Object want, Check.Call got) {
            call++;
            Check.due("run " + seed + ", call " + call + ": " + what, want, got);
        }

        private void compare(String what, Check.Call want, Check.Call got) {
            due(what, Check.answerOf(want), got);
        }

        private int edge(int most) {
            return random.nextInt(12) == 0
                    ? new int[] {-1, most, Integer.MIN_VALUE, Integer.MAX_VALUE}[random.nextInt(4)]
                    : random.nextInt(most);
        }

        private int address() {
            int address = edge(1024);
            return address < 0 || address > 1023 ? address : address % reach;
        }

        private int anySets() {
            return random.nextInt(8) == 0 ? random.nextInt(20) - 1 : ALL_SETS[random.nextInt(5)];
        }

        private int anyPlaces() {
            return random.nextInt(11) - 1;
        }

        private void change() {
            int a = address();
            int v = random.nextInt(5) == 0 ? random.nextInt() : random.nextInt(100);
            int kind = random.nextInt(100);
            if (kind < 40) {
                compare("write(" + a + ", " + v + ")", () -> model.write(a, v), () -> real.write(a, v));
            } else if (kind < 75) {
                compare("read(" + a + ")", () -> model.read(a), () -> real.read(a));
            } else if (kind < 83) {
                int step = random.nextInt(135) - 67;
                int count = random.nextInt(20) == 0 ? random.nextInt(200) - 50 : 1 + random.nextInt(12);
                compare("walk(" + a + ", " + step + ", " + count + ")",
                        () -> model.walk(a, step, count), () -> real.walk(a, step, count));
            } else if (kind < 85) {
                compare("bringHome()", () -> model.bringHome(), () -> real.bringHome());
            } else if (kind < 88) {
                int sets = anySets();
                int places = anyPlaces();
                compare("build(" + sets + ", " + places + ")",
                        () -> model.build(sets, places), () -> real.build(sets, places));
            } else {
                int set = random.nextInt(model.sets + 2) - 1;
                compare("cast(" + set + ")", () -> model.cast(set), () -> real.cast(set));
            }
        }

        private void look() {
            int a = address();
            int n = random.nextInt(3) == 0 ? edge(256) : random.nextInt(1 + reach / 4);
            int set = random.nextInt(model.sets + 2) - 1;
            int age = random.nextInt(model.places + 3) - 1;
            switch (random.nextInt(11)) {
                case 0 -> compare("peek(" + a + ")", () -> model.peek(a), () -> real.peek(a));
                case 1 -> compare("atHome(" + a + ")", () -> model.atHome(a), () -> real.atHome(a));
                case 2 -> compare("placeOf(" + n + ")", () -> model.placeOf(n), () -> real.placeOf(n));
                case 3 -> compare("isDirty(" + n + ")", () -> model.isDirty(n), () -> real.isDirty(n));
                case 4 -> compare("lineIn(" + set + ")", () -> model.lineIn(set), () -> real.lineIn(set));
                case 5, 6 -> compare("lineOnBench(" + age + ")",
                        () -> model.lineOnBench(age), () -> real.lineOnBench(age));
                case 7 -> due("cost()", model.cost, real::cost);
                case 8 -> due("dirty()", model.dirty(), real::dirty);
                case 9 -> due("bestPlaces()", model.bestPlaces(), real::bestPlaces);
                default -> {
                    int sets = anySets();
                    int places = anyPlaces();
                    compare("wouldCost(" + sets + ", " + places + ")",
                            () -> model.wouldCost(sets, places), () -> real.wouldCost(sets, places));
                }
            }
        }
    }

    private static final class Line {
        final int number;
        final int[] words;
        boolean dirty = false;

        Line(int number, int[] memory) {
            this.number = number;
            words = Arrays.copyOfRange(memory, 4 * number, 4 * number + 4);
        }
    }

    private record Access(int address, boolean wrote) {
    }

    private static final class Model {
        int sets;
        int places;
        Line[] cache;
        /** The youngest first. */
        ArrayDeque<Line> bench = new ArrayDeque<>();
        final int[] memory = new int[1024];
        final List<Access> accesses = new ArrayList<>();
        int hits = 0;
        int swaps = 0;
        int misses = 0;
        int homecomings = 0;
        int cost = 0;

        Model(int sets, int places) {
            this.sets = sets;
            this.places = places;
            cache = new Line[sets];
        }

        private static void wordIsThere(int address) {
            if (address < 0 || address > 1023) {
                throw new IndexOutOfBoundsException();
            }
        }

        private static void sizeIsThere(int sets, int places) {
            if (Arrays.binarySearch(ALL_SETS, sets) < 0 || places < 0 || places > 8) {
                throw new IllegalArgumentException();
            }
        }

        private void setIsThere(int set) {
            if (set < 0 || set >= sets) {
                throw new IndexOutOfBoundsException();
            }
        }

        /** The line where it is, or null if it is only in the memory. */
        private Line find(int number) {
            if (number < 0 || number > 255) {
                throw new IndexOutOfBoundsException();
            }
            for (Line line : held()) {
                if (line.number == number) {
                    return line;
                }
            }
            return null;
        }

        private List<Line> held() {
            List<Line> held = new ArrayList<>(bench);
            for (Line line : cache) {
                if (line != null) {
                    held.add(line);
                }
            }
            return held;
        }

        private void bring(Line line) {
            if (line.dirty) {
                System.arraycopy(line.words, 0, memory, 4 * line.number, 4);
                line.dirty = false;
                homecomings++;
                cost += 10;
            }
        }

        private void toss(Line line) {
            bench.addFirst(line);
            if (bench.size() > places) {
                bring(bench.removeLast());
            }
        }

        private Line access(int address, boolean wrote) {
            accesses.add(new Access(address, wrote));
            int number = address / 4;
            int set = number % sets;
            Line line = find(number);
            if (line != null && line == cache[set]) {
                hits++;
                cost += 1;
            } else {
                if (line != null) {
                    swaps++;
                    cost += 3;
                    for (Iterator<Line> it = bench.iterator(); it.hasNext();) {
                        if (it.next() == line) {
                            it.remove();
                        }
                    }
                } else {
                    misses++;
                    cost += 20;
                }
                if (cache[set] != null) {
                    toss(cache[set]);
                }
                cache[set] = line != null ? line : new Line(number, memory);
            }
            cache[set].dirty |= wrote;
            return cache[set];
        }

        int read(int address) {
            wordIsThere(address);
            return access(address, false).words[address % 4];
        }

        int write(int address, int value) {
            wordIsThere(address);
            Line line = access(address, true);
            int before = line.words[address % 4];
            line.words[address % 4] = value;
            return before;
        }

        int walk(int from, int step, int count) {
            wordIsThere(from);
            if (Math.abs(step) > 64 || count < 1 || count > 100) {
                throw new IllegalArgumentException();
            }
            int before = cost;
            for (int k = 0; k < count; k++) {
                read((from + k * step + 64 * 1024) % 1024);
            }
            return cost - before;
        }

        int bringHome() {
            int dirty = dirty();
            held().forEach(this::bring);
            return dirty;
        }

        int build(int newSets, int newPlaces) {
            sizeIsThere(newSets, newPlaces);
            int forgotten = held().size();
            bringHome();
            sets = newSets;
            places = newPlaces;
            cache = new Line[sets];
            bench = new ArrayDeque<>();
            return forgotten;
        }

        int cast(int set) {
            setIsThere(set);
            if (cache[set] == null) {
                throw new IllegalStateException();
            }
            int number = cache[set].number;
            toss(cache[set]);
            cache[set] = null;
            return number;
        }

        int lineIn(int set) {
            setIsThere(set);
            return cache[set] == null ? -1 : cache[set].number;
        }

        int lineOnBench(int age) {
            if (age < 0 || age >= bench.size()) {
                throw new IndexOutOfBoundsException();
            }
            return new ArrayList<>(bench).get(age).number;
        }

        int placeOf(int number) {
            Line line = find(number);
            return line == null ? 0 : bench.contains(line) ? 2 : 1;
        }

        boolean isDirty(int number) {
            Line line = find(number);
            return line != null && line.dirty;
        }

        int dirty() {
            return (int) held().stream().filter(line -> line.dirty).count();
        }

        int atHome(int address) {
            wordIsThere(address);
            return memory[address];
        }

        int peek(int address) {
            wordIsThere(address);
            Line line = find(address / 4);
            return line == null ? memory[address] : line.words[address % 4];
        }

        int wouldCost(int otherSets, int otherPlaces) {
            sizeIsThere(otherSets, otherPlaces);
            Model other = new Model(otherSets, otherPlaces);
            for (Access access : accesses.subList(Math.max(0, accesses.size() - 150), accesses.size())) {
                other.access(access.address, access.wrote);
            }
            return other.cost;
        }

        int bestPlaces() {
            int best = 8;
            for (int n = 7; n >= 0; n--) {
                if (wouldCost(sets, n) <= wouldCost(sets, best)) {
                    best = n;
                }
            }
            return best;
        }
    }
}
