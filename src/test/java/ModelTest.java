import java.util.Arrays;
import java.util.Random;

/** Long runs of calls, chosen by fixed seeds, on AfterDesk and on the Model: each answer must be the same. */
public final class ModelTest {
    private static final int CALLS = 512;
    private static final int[] EDGES = {Integer.MIN_VALUE, -1000001, -100001, -100000, -2, -1, 0, 1, 2, 3, 4, 5, 9, 10,
        11, 12, 15, 16, 24, 30, 1000, 1001, 1023, 1024, 65535, 65536, 100000, 100001, 1000000, 1000001,
        Integer.MAX_VALUE};
    /** How often a run chooses each call, in the order of Calls.NAMES. */
    private static final int[] EVEN = {1, 1, 1, 1, 1, 1, 1, 1, 1, 1, 1, 1, 1, 1, 1, 1, 1, 1, 1, 1, 1, 1, 1, 1, 1, 1, 1, 1};
    private static final int[] TIMES = {3, 1, 1, 6, 2, 1, 1, 3, 8, 4, 6, 6, 4, 4, 0, 0, 0, 0, 0, 0, 0, 0, 0, 0, 1, 5, 1, 1};
    private static final int[] TALES = {0, 0, 0, 3, 2, 0, 0, 0, 0, 0, 0, 0, 0, 0, 6, 1, 2, 4, 3, 3, 3, 3, 3, 3, 0, 0, 1, 1};
    private static final int[] RINGS = {1, 1, 0, 1, 1, 0, 0, 1, 9, 9, 2, 2, 9, 2, 0, 0, 0, 0, 0, 0, 0, 0, 0, 0, 1, 1, 1, 1};
    private static final int[] CROWDS = {9, 0, 2, 9, 1, 1, 1, 2, 9, 0, 1, 1, 1, 1, 1, 0, 0, 0, 0, 0, 0, 0, 0, 0, 9, 0, 1, 1};

    private final Random random;
    private final int[] weights;
    private final int scale;
    private AfterDesk desk;
    private Model model;
    private int calls;

    private ModelTest(long seed, int[] weights, int scale) {
        this.random = new Random(seed);
        this.weights = weights;
        this.scale = scale;
    }

    public static void main(String[] args) {
        int runs = args.length > 0 ? Integer.parseInt(args[0]) : 25;
        for (int seed = 0; seed < runs && Due.wrongSoFar() == 0; seed++) {
            new ModelTest(seed, EVEN, 10).run(seed);
            new ModelTest(seed, TIMES, 3).run(seed);
            new ModelTest(seed, TIMES, 20).run(seed);
            new ModelTest(seed, TIMES, 100000).run(seed);
            new ModelTest(seed, TALES, 1).run(seed);
            new ModelTest(seed, TALES, 2).run(seed);
            new ModelTest(seed, TALES, 1000).run(seed);
            new ModelTest(seed, RINGS, 2).run(seed);
            new ModelTest(seed, RINGS, 9).run(seed);
            new ModelTest(seed, CROWDS, 20000).run(seed);
        }
        Due.end();
    }

    private void run(int seed) {
        desk = new AfterDesk();
        model = new Model();
        calls = 0;
        boolean wild = seed % 5 == 4;
        if (weights == RINGS) {
            tieRing();
        }
        while (calls < CALLS && Due.wrongSoFar() == 0) {
            String name = Calls.NAMES[choose()];
            if (name.equals("check") && random.nextInt(4) != 0) {
                tellNearlyRight();
            }
            compare(name, wild || random.nextInt(25) == 0 ? edgeNumbers() : fitNumbers(name), random.nextBoolean());
        }
        if (Due.wrongSoFar() != 0) {
            System.out.println("in run " + seed + " of scale " + scale + ", call " + calls);
        }
    }

    /** A ring of all TRACES that is just good or just not, so that QUARRELS of many TRACES come up. */
    private void tieRing() {
        for (int t = 0; t < 12; t++) {
            compare("trace", new int[] {random.nextInt(3), random.nextInt(4), reading(), 0}, false);
        }
        int sum = 0;
        int step = new int[] {1, 5, 7, 11}[random.nextInt(4)];
        for (int t = 0; t < 12; t++) {
            int d = t == 11 ? random.nextInt(2) - sum : shift();
            compare("tie", new int[] {t * step % 12, (t + 1) * step % 12, d}, false);
            compare("quarrel", new int[5], false);
            sum += d;
        }
    }

    private int choose() {
        int left = random.nextInt(Arrays.stream(weights).sum());
        int name = 0;
        while (left >= weights[name]) {
            left -= weights[name];
            name++;
        }
        return name;
    }

    private void tellNearlyRight() {
        int traces = model.traceCount();
        compare("check", new int[5], false);
        for (int t = 0; t < traces; t++) {
            for (int latest = 0; latest < 2; latest++) {
                long end = compare("time", new int[] {t}, latest == 1);
                int told = end < Due.LOW ? 0 : (int) end + (random.nextInt(60) == 0 ? 1 : 0);
                compare("tell", new int[] {told}, false);
            }
        }
        if (random.nextInt(4) == 0) {
            compare("tell", new int[] {0}, false);
        }
    }

    private int[] edgeNumbers() {
        int[] n = new int[5];
        for (int i = 0; i < n.length; i++) {
            n[i] = random.nextInt(3) == 0 ? EDGES[random.nextInt(EDGES.length)] : random.nextInt(4);
        }
        return n;
    }

    private int[] fitNumbers(String name) {
        int traces = Math.max(1, model.traceCount());
        int a = random.nextInt(traces);
        int b = random.nextInt(traces);
        return switch (name) {
            case "piece" -> pieceNumbers();
            case "offset" -> new int[] {random.nextInt(4), reading()};
            case "trace" -> traceNumbers();
            case "about" -> new int[] {a, random.nextInt(4)};
            case "as" -> new int[] {a, random.nextInt(3)};
            case "tie" -> new int[] {a, b, shift() - (weights == RINGS ? scale : 0)};
            case "untie" -> new int[] {random.nextInt(12)};
            case "deed" -> new int[] {random.nextInt(10), price(), row(), row(), row()};
            case "forget", "sure" -> new int[] {random.nextInt(10)};
            case "prices" -> new int[] {price(), price()};
            case "cost" -> new int[] {random.nextInt(1024) & (random.nextBoolean() ? random.nextInt(1024) : 1023)};
            case "story" -> new int[] {random.nextInt(5) - 1};
            case "parts" -> new int[] {random.nextInt(16)};
            case "count" -> new int[] {random.nextInt(5)};
            case "found" -> new int[] {random.nextInt(7)};
            default -> new int[] {a, b, 0, 0, 0};
        };
    }

    /** In TALES most are FORGED: else hardly a STORY is POSSIBLE. */
    private int[] traceNumbers() {
        int kind = weights == TALES && random.nextInt(4) != 0 ? 2 : random.nextInt(3);
        int clock = random.nextInt(weights == RINGS ? 4 : 2);
        return new int[] {kind, clock, reading(), random.nextInt(weights == TALES ? 6 : 16)};
    }

    private int[] pieceNumbers() {
        int low = shift();
        int high = random.nextInt(10) == 0 ? shift() : Math.min(100000, low + random.nextInt(scale + 1));
        return new int[] {random.nextInt(2), reading(), low, high};
    }

    private int reading() {
        return random.nextInt(Math.min(1000000, 5 * scale) + 1);
    }

    private int shift() {
        return random.nextInt(2 * scale + 1) - scale;
    }

    private int price() {
        return random.nextInt(Math.min(scale, 1000) + 1);
    }

    private int row() {
        return random.nextInt(512) & random.nextInt(1024) & random.nextInt(65536);
    }

    private long compare(String name, int[] n, boolean flag) {
        if (calls >= CALLS) {
            return Due.NONE;
        }
        calls++;
        long due = model.call(name, n, flag);
        Due.is(name + Arrays.toString(n) + " " + flag, Calls.answer(desk, name, n, flag), due);
        return due;
    }
}
