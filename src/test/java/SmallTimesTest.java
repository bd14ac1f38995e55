import java.util.Random;

/**
 * Times of up to three TRACES by trying all whole numbers of a room that is wide enough: with the small numbers used
 * here an end that is there lies within REACH of 0, and one that isn't shows as times at the walls of the room.
 */
public final class SmallTimesTest {
    private static final int WALL = 60;
    private static final int REACH = 28;

    private final Random random;
    private final AfterDesk desk = new AfterDesk();
    private final int size;
    private final int[][] ties;
    private int[] low;
    private int[] high;

    private SmallTimesTest(long seed) {
        random = new Random(seed);
        size = 2 + random.nextInt(2);
        ties = new int[random.nextInt(5)][];
    }

    public static void main(String[] args) {
        for (int seed = 0; seed < 400 && Due.wrongSoFar() == 0; seed++) {
            new SmallTimesTest(seed).run(seed);
        }
        Due.end();
    }

    private void run(int seed) {
        setUp();
        String name = "seed " + seed + " ";
        boolean good = tryTimes(-1);
        int[] least = low;
        int[] most = high;
        for (int t = 0; t < size; t++) {
            Due.is(name + "earliest of " + t, desk.time(t, false), end(good, least[t]));
            Due.is(name + "latest of " + t, desk.time(t, true), end(good, most[t]));
        }
        for (int b = 1; b < size; b++) {
            Due.is(name + "least apart 0 and " + b, desk.apart(0, b, false), end(good, least[size + b]));
            Due.is(name + "most apart 0 and " + b, desk.apart(0, b, true), end(good, most[size + b]));
        }
        for (int other = 1; other < size; other++) {
            boolean rest = tryTimes(other);
            Due.is(name + "earliest without " + other, desk.without(0, other, false), end(rest, low[0]));
            Due.is(name + "latest without " + other, desk.without(0, other, true), end(rest, high[0]));
        }
        Due.is(name + "quarrel is none", desk.quarrel() == Due.NONE ? 1 : 0, good ? 1 : 0);
    }

    private void setUp() {
        for (int clock = 0; clock < 2; clock++) {
            int shift = random.nextInt(5) - 2;
            desk.piece(clock, random.nextInt(3), shift, shift + random.nextInt(4));
        }
        for (int t = 0; t < size; t++) {
            desk.trace(random.nextInt(3), random.nextInt(3), random.nextInt(7), 0);
        }
        for (int i = 0; i < ties.length; i++) {
            int a = random.nextInt(size);
            int b = (a + 1 + random.nextInt(size - 1)) % size;
            ties[i] = new int[] {a, b, random.nextInt(9) - 5};
            desk.tie(a, b, ties[i][2]);
        }
    }

    private static long end(boolean good, int value) {
        if (!good) {
            return Due.STATE;
        }
        return Math.abs(value) > REACH ? Due.NONE : value;
    }

    /** Fills low and high with the ends of the times, and behind these with those of their distances to the first. */
    private boolean tryTimes(int leftOut) {
        low = new int[2 * size];
        high = new int[2 * size];
        java.util.Arrays.fill(low, Integer.MAX_VALUE);
        java.util.Arrays.fill(high, Integer.MIN_VALUE);
        tryFrom(0, new int[size], leftOut);
        return low[leftOut == 0 ? 1 : 0] != Integer.MAX_VALUE;
    }

    private void tryFrom(int t, int[] times, int leftOut) {
        if (t == size) {
            note(times);
            return;
        }
        if (t == leftOut) {
            tryFrom(t + 1, times, leftOut);
            return;
        }
        long least = desk.span(t, false);
        long most = desk.span(t, true);
        int first = least < Due.LOW ? -WALL : (int) least;
        int last = most < Due.LOW ? WALL : (int) most;
        for (int time = first; time <= last; time++) {
            times[t] = time;
            if (tiesHold(t, times, leftOut)) {
                tryFrom(t + 1, times, leftOut);
            }
        }
    }

    private boolean tiesHold(int last, int[] times, int leftOut) {
        for (int[] tie : ties) {
            boolean counts = tie[0] <= last && tie[1] <= last && tie[0] != leftOut && tie[1] != leftOut;
            if (counts && times[tie[1]] - times[tie[0]] < tie[2]) {
                return false;
            }
        }
        return true;
    }

    private void note(int[] times) {
        for (int t = 0; t < size; t++) {
            low[t] = Math.min(low[t], times[t]);
            high[t] = Math.max(high[t], times[t]);
            low[size + t] = Math.min(low[size + t], times[t] - times[0]);
            high[size + t] = Math.max(high[size + t], times[t] - times[0]);
        }
    }
}
