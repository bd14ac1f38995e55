import java.util.Arrays;

/**
 * A desk for what was done afterwards told: clocks give traces spans of true time, ties tighten them, and
 * stories of deeds explain the marks of the traces at the least price.
 */
public final class AfterDesk {
    private static final long LOW = -1000000000000L;
    private static final int BEYOND = 1;
    private static final int NONE = 2;
    private static final int KIND = 3;
    private static final int FULL = 4;
    private static final int STATE = 5;
    private static final int FINDINGS = 5;

    private static final int CLOCKS = 4;
    private static final int MOST_PIECES = 5;
    private static final int MOST_TRACES = 12;
    private static final int MOST_TIES = 24;
    private static final int MOST_WAITING = 30;
    private static final int MARKS = 16;
    private static final int DEEDS = 10;
    private static final int STORIES = 1 << DEEDS;

    private static final int KINDS = 3;
    private static final int PLAIN = 0;
    private static final int COPIED = 1;
    private static final int FORGED = 2;

    private static final int GREATEST_READING = 1000000;
    private static final int GREATEST_SHIFT = 100000;
    private static final int GREATEST_PRICE = 1000;
    private static final int ALL_MARKS = (1 << MARKS) - 1;

    private static final int NOBODY = -1;
    private static final int MORE_TOLD = 99;
    /** Above every sum of bounds that a desk can hold, and low enough that two of them don't wrap around. */
    private static final long NO_BOUND = 1L << 60;

    private final Clock[] clocks;
    private final Traces traces;
    private final Ties ties;
    private final Bounds bounds;
    private final QuarrelSeeker seeker;
    private final Deeds deeds;
    private final LeastStories leastStories;
    private final int[] waiting;
    private int waitingSize;
    private final int[] findings;

    public AfterDesk() {
        clocks = new Clock[CLOCKS];
        for (int i = 0; i < CLOCKS; i++) {
            clocks[i] = new Clock();
        }
        traces = new Traces();
        ties = new Ties();
        bounds = new Bounds();
        seeker = new QuarrelSeeker();
        deeds = new Deeds();
        leastStories = new LeastStories();
        waiting = new int[MOST_WAITING];
        waitingSize = 0;
        findings = new int[FINDINGS + 1];
    }

    // ---- clocks

    public long piece(int clock, int from, int low, int high) {
        if (!isWithin(clock, 0, CLOCKS - 1) || !isReading(from) || !isShift(low) || !isShift(high) || low > high) {
            return finding(BEYOND);
        }
        if (!clocks[clock].isBehindAll(from)) {
            return finding(BEYOND);
        }
        if (clocks[clock].isFull()) {
            return finding(FULL);
        }
        return clocks[clock].append(from, low, high);
    }

    public long reset(int clock) {
        if (!isWithin(clock, 0, CLOCKS - 1)) {
            return finding(BEYOND);
        }
        return clocks[clock].removeAll();
    }

    public long offset(int clock, int reading, boolean high) {
        if (!isWithin(clock, 0, CLOCKS - 1) || !isReading(reading)) {
            return finding(BEYOND);
        }
        int place = clocks[clock].placeOf(reading);
        if (place == NOBODY) {
            return finding(NONE);
        }
        return clocks[clock].shiftAt(place, high);
    }

    // ---- traces, ties

    public long trace(int kind, int clock, int reading, int mark) {
        if (!isWithin(kind, 0, KINDS - 1) || !isWithin(clock, 0, CLOCKS - 1) || !isReading(reading)
                || !isWithin(mark, 0, MARKS - 1)) {
            return finding(BEYOND);
        }
        if (traces.isFull()) {
            return finding(FULL);
        }
        leastStories.outdate();
        return traces.append(kind, clock, reading, mark);
    }

    public long drop() {
        if (traces.size() == 0) {
            return finding(NONE);
        }
        leastStories.outdate();
        int left = traces.removeLast();
        ties.removeAllOf(left);
        return left;
    }

    public long about(int trace, int what) {
        if (!traces.has(trace)) {
            return finding(BEYOND);
        }
        switch (what) {
            case 0:
                return traces.kindOf(trace);
            case 1:
                return traces.clockOf(trace);
            case 2:
                return traces.readingOf(trace);
            case 3:
                return traces.markOf(trace);
            default:
                return finding(BEYOND);
        }
    }

    public long as(int trace, int kind) {
        if (!traces.has(trace) || !isWithin(kind, 0, KINDS - 1)) {
            return finding(BEYOND);
        }
        if (kind != PLAIN && kind != traces.kindOf(trace)) {
            return finding(KIND);
        }
        return traces.markOf(trace);
    }

    public long span(int trace, boolean upper) {
        if (!traces.has(trace)) {
            return finding(BEYOND);
        }
        return endOrNone(spanEnd(trace, upper));
    }

    public long tie(int a, int b, int d) {
        if (!areTwoTraces(a, b) || !isShift(d)) {
            return finding(BEYOND);
        }
        if (ties.isFull()) {
            return finding(FULL);
        }
        return ties.append(a, b, d);
    }

    public long untie(int i) {
        if (!isWithin(i, 0, ties.size() - 1)) {
            return finding(BEYOND);
        }
        return ties.remove(i);
    }

    // ---- times

    public long time(int trace, boolean latest) {
        if (!traces.has(trace)) {
            return finding(BEYOND);
        }
        if (!settleTimes(NOBODY)) {
            return finding(STATE);
        }
        return endOrNone(timeEnd(trace, latest));
    }

    public long apart(int a, int b, boolean most) {
        if (!areTwoTraces(a, b)) {
            return finding(BEYOND);
        }
        if (!settleTimes(NOBODY)) {
            return finding(STATE);
        }
        return endOrNone(most ? bounds.between(a + 1, b + 1) : -bounds.between(b + 1, a + 1));
    }

    public long quarrel() {
        gatherBounds(NOBODY);
        int bits = seeker.seek(bounds);
        return bits == 0 ? finding(NONE) : bits;
    }

    public long without(int trace, int other, boolean latest) {
        if (!areTwoTraces(trace, other)) {
            return finding(BEYOND);
        }
        if (!settleTimes(other)) {
            return finding(STATE);
        }
        return endOrNone(timeEnd(trace, latest));
    }

    // ---- deeds and stories

    public long deed(int d, int price, int always, int mostly, int wipes) {
        if (!isWithin(d, 0, DEEDS - 1) || !isPrice(price) || !isRowOfMarks(always) || !isRowOfMarks(mostly)
                || !isRowOfMarks(wipes)) {
            return finding(BEYOND);
        }
        leastStories.outdate();
        deeds.learn(d, price, always, mostly, wipes);
        return 1;
    }

    public long forget(int d) {
        if (!isWithin(d, 0, DEEDS - 1)) {
            return finding(BEYOND);
        }
        if (!deeds.isKnown(d)) {
            return 0;
        }
        leastStories.outdate();
        deeds.unlearn(d);
        return 1;
    }

    public long prices(int miss, int forge) {
        if (!isPrice(miss) || !isPrice(forge)) {
            return finding(BEYOND);
        }
        leastStories.outdate();
        leastStories.charge(miss, forge);
        return 1;
    }

    public long cost(int story) {
        if (!deeds.areAllKnown(story)) {
            return finding(BEYOND);
        }
        deeds.gather(story);
        if (!leastStories.isPossible(deeds, traces)) {
            return finding(STATE);
        }
        return leastStories.priceOf(deeds, traces);
    }

    public long least() {
        leastStories.update(deeds, traces);
        return leastStories.size() == 0 ? finding(NONE) : leastStories.commonCost();
    }

    public long many() {
        leastStories.update(deeds, traces);
        return leastStories.size();
    }

    public long story(int i) {
        if (i < 0) {
            return finding(BEYOND);
        }
        leastStories.update(deeds, traces);
        return i >= leastStories.size() ? finding(NONE) : leastStories.at(i);
    }

    public long sure(int d) {
        if (!isWithin(d, 0, DEEDS - 1) || !deeds.isKnown(d)) {
            return finding(BEYOND);
        }
        leastStories.update(deeds, traces);
        if (leastStories.size() == 0) {
            return finding(NONE);
        }
        if (leastStories.isInAll(d)) {
            return 1;
        }
        return leastStories.isInSome(d) ? 0 : -1;
    }

    public long parts(int mark) {
        if (!isWithin(mark, 0, MARKS - 1)) {
            return finding(BEYOND);
        }
        if (isThere(mark)) {
            return finding(STATE);
        }
        leastStories.update(deeds, traces);
        return leastStories.size() == 0 ? finding(NONE) : leastStories.partedBy(mark);
    }

    public long ask() {
        leastStories.update(deeds, traces);
        if (leastStories.size() == 0) {
            return finding(NONE);
        }
        int best = NOBODY;
        int most = -1;
        for (int mark = 0; mark < MARKS; mark++) {
            if (!isThere(mark) && leastStories.partedBy(mark) > most) {
                best = mark;
                most = leastStories.partedBy(mark);
            }
        }
        return best == NOBODY ? finding(NONE) : best;
    }

    // ---- what is told

    public long tell(int v) {
        if (waitingSize >= MOST_WAITING) {
            return finding(FULL);
        }
        waiting[waitingSize] = v;
        waitingSize++;
        return waitingSize;
    }

    public long check() {
        int told = waitingSize;
        waitingSize = 0;
        if (!settleTimes(NOBODY)) {
            return finding(STATE);
        }
        for (int i = 0; i < traces.size(); i++) {
            if (!isToldRight(i, told)) {
                return 1 + i;
            }
        }
        return told > 2 * traces.size() ? MORE_TOLD : 0;
    }

    public long count(int what) {
        switch (what) {
            case 0:
                return traces.size();
            case 1:
                return ties.size();
            case 2:
                return deeds.knownSize();
            case 3:
                return waitingSize;
            case 4:
                return Integer.bitCount(traces.marksThere());
            default:
                return finding(BEYOND);
        }
    }

    public long found(int k) {
        if (!isWithin(k, 1, FINDINGS)) {
            return finding(BEYOND);
        }
        return findings[k];
    }

    // ---- what the acts share

    private long finding(int k) {
        if (isWithin(k, 1, FINDINGS)) {
            findings[k]++;
        }
        return LOW - k;
    }

    private long endOrNone(long end) {
        return isEnd(end) ? end : finding(NONE);
    }

    private boolean areTwoTraces(int a, int b) {
        return traces.has(a) && traces.has(b) && a != b;
    }

    private boolean isThere(int mark) {
        return (traces.marksThere() >> mark & 1) != 0;
    }

    /** The end of the SPAN, or no end: NO_BOUND above, its negative below. */
    private long spanEnd(int trace, boolean upper) {
        Clock clock = clocks[traces.clockOf(trace)];
        int place = clock.placeOf(traces.readingOf(trace));
        if (place == NOBODY || upper && traces.kindOf(trace) == COPIED) {
            return upper ? NO_BOUND : -NO_BOUND;
        }
        return (long) traces.readingOf(trace) + clock.shiftAt(place, upper);
    }

    /** EARLIEST or LATEST by bounds that are settled; no end likewise. */
    private long timeEnd(int trace, boolean latest) {
        return latest ? bounds.between(0, trace + 1) : -bounds.between(trace + 1, 0);
    }

    private boolean isToldRight(int trace, int told) {
        int first = 2 * trace;
        if (first + 1 >= told || first + 1 >= MOST_WAITING) {
            return false;
        }
        long earliest = timeEnd(trace, false);
        long latest = timeEnd(trace, true);
        return isEnd(earliest) && isEnd(latest) && waiting[first] == earliest && waiting[first + 1] == latest;
    }

    /** Whether all TRACES but one (or all, with NOBODY) have GOOD TIMES; if so the bounds are the tightest. */
    private boolean settleTimes(int leftOut) {
        gatherBounds(leftOut);
        return bounds.tighten();
    }

    private void gatherBounds(int leftOut) {
        bounds.loosen(traces.size() + 1);
        for (int t = 0; t < traces.size(); t++) {
            if (t != leftOut) {
                bounds.atMost(0, t + 1, spanEnd(t, true));
                bounds.atMost(t + 1, 0, -spanEnd(t, false));
            }
        }
        for (int i = 0; i < ties.size(); i++) {
            int a = ties.aheadOf(i);
            int b = ties.behindOf(i);
            if (a != leftOut && b != leftOut) {
                bounds.atMost(b + 1, a + 1, -ties.distanceOf(i));
            }
        }
    }

    private static boolean isEnd(long end) {
        return end > -NO_BOUND && end < NO_BOUND;
    }

    private static boolean isWithin(int value, int least, int greatest) {
        return value >= least && value <= greatest;
    }

    private static boolean isReading(int value) {
        return isWithin(value, 0, GREATEST_READING);
    }

    private static boolean isShift(int value) {
        return isWithin(value, -GREATEST_SHIFT, GREATEST_SHIFT);
    }

    private static boolean isPrice(int value) {
        return isWithin(value, 0, GREATEST_PRICE);
    }

    private static boolean isRowOfMarks(int value) {
        return isWithin(value, 0, ALL_MARKS);
    }

    /** The PIECES of one CLOCK. */
    private static final class Clock {
        private final int[] froms = new int[MOST_PIECES];
        private final int[] lows = new int[MOST_PIECES];
        private final int[] highs = new int[MOST_PIECES];
        private int size = 0;

        boolean isFull() {
            return size >= MOST_PIECES;
        }

        boolean isBehindAll(int from) {
            return size == 0 || from > froms[size - 1];
        }

        int append(int from, int low, int high) {
            if (!isFull()) {
                froms[size] = from;
                lows[size] = low;
                highs[size] = high;
                size++;
            }
            return size;
        }

        int removeAll() {
            int gone = size;
            size = 0;
            return gone;
        }

        int placeOf(int reading) {
            int place = NOBODY;
            for (int i = 0; i < size; i++) {
                if (froms[i] <= reading) {
                    place = i;
                }
            }
            return place;
        }

        int shiftAt(int place, boolean high) {
            if (!isWithin(place, 0, size - 1)) {
                return 0;
            }
            return high ? highs[place] : lows[place];
        }
    }

    /** The TRACES. Who asks of one has asked has() ahead of it. */
    private static final class Traces {
        private final int[] kinds = new int[MOST_TRACES];
        private final int[] clockNumbers = new int[MOST_TRACES];
        private final int[] readings = new int[MOST_TRACES];
        private final int[] marks = new int[MOST_TRACES];
        private int size = 0;
        private int there = 0;
        private int toExplain = 0;

        int size() {
            return size;
        }

        boolean isFull() {
            return size >= MOST_TRACES;
        }

        boolean has(int i) {
            return isWithin(i, 0, size - 1);
        }

        int append(int kind, int clock, int reading, int mark) {
            int number = size;
            if (!isFull()) {
                kinds[number] = kind;
                clockNumbers[number] = clock;
                readings[number] = reading;
                marks[number] = mark;
                size++;
                noteMarks();
            }
            return number;
        }

        int removeLast() {
            if (size > 0) {
                size--;
                noteMarks();
            }
            return size;
        }

        int kindOf(int i) {
            return has(i) ? kinds[i] : PLAIN;
        }

        int clockOf(int i) {
            return has(i) ? clockNumbers[i] : 0;
        }

        int readingOf(int i) {
            return has(i) ? readings[i] : 0;
        }

        int markOf(int i) {
            return has(i) ? marks[i] : 0;
        }

        int marksThere() {
            return there;
        }

        /** MARKS that some TRACE has that isn't FORGED: a STORY must leave them. */
        int marksToExplain() {
            return toExplain;
        }

        private void noteMarks() {
            there = 0;
            toExplain = 0;
            for (int i = 0; i < size; i++) {
                there |= 1 << marks[i];
                if (kinds[i] != FORGED) {
                    toExplain |= 1 << marks[i];
                }
            }
        }

        int howManyNotOf(int rowOfMarks) {
            int others = 0;
            for (int i = 0; i < size; i++) {
                if ((rowOfMarks >> marks[i] & 1) == 0) {
                    others++;
                }
            }
            return others;
        }
    }

    /** The TIES, in the order in which they came. */
    private static final class Ties {
        private final int[] aheads = new int[MOST_TIES];
        private final int[] behinds = new int[MOST_TIES];
        private final int[] distances = new int[MOST_TIES];
        private int size = 0;

        int size() {
            return size;
        }

        boolean isFull() {
            return size >= MOST_TIES;
        }

        int append(int a, int b, int d) {
            if (!isFull()) {
                aheads[size] = a;
                behinds[size] = b;
                distances[size] = d;
                size++;
            }
            return size;
        }

        int remove(int place) {
            if (isWithin(place, 0, size - 1)) {
                for (int i = place + 1; i < size; i++) {
                    move(i, i - 1);
                }
                size--;
            }
            return size;
        }

        void removeAllOf(int trace) {
            int kept = 0;
            for (int i = 0; i < size; i++) {
                if (aheads[i] != trace && behinds[i] != trace) {
                    move(i, kept);
                    kept++;
                }
            }
            size = kept;
        }

        private void move(int source, int target) {
            aheads[target] = aheads[source];
            behinds[target] = behinds[source];
            distances[target] = distances[source];
        }

        int aheadOf(int i) {
            return isWithin(i, 0, size - 1) ? aheads[i] : 0;
        }

        int behindOf(int i) {
            return isWithin(i, 0, size - 1) ? behinds[i] : 0;
        }

        int distanceOf(int i) {
            return isWithin(i, 0, size - 1) ? distances[i] : 0;
        }
    }

    /**
     * By how much the time of a node may at most be behind that of another. Node 0 is the true time 0, so that
     * SPANS are bounds like TIES; node t + 1 is TRACE t.
     */
    private static final class Bounds {
        private static final int MOST_NODES = MOST_TRACES + 1;
        private final long[] most = new long[MOST_NODES * MOST_NODES];
        private int nodes = 1;

        int nodes() {
            return nodes;
        }

        void loosen(int howMany) {
            nodes = Math.max(1, Math.min(howMany, MOST_NODES));
            Arrays.fill(most, NO_BOUND);
            for (int i = 0; i < nodes; i++) {
                most[i * MOST_NODES + i] = 0;
            }
        }

        void atMost(int from, int to, long bound) {
            if (areNodes(from, to) && bound < most[from * MOST_NODES + to]) {
                most[from * MOST_NODES + to] = bound;
            }
        }

        long between(int from, int to) {
            return areNodes(from, to) ? most[from * MOST_NODES + to] : NO_BOUND;
        }

        /** Shortest ways between all nodes; false as soon as a way back to its own node is below 0. */
        boolean tighten() {
            for (int via = 0; via < nodes; via++) {
                for (int from = 0; from < nodes; from++) {
                    tightenRow(from, via);
                }
                // looked at here, and not at the end, so that sums can't grow around a ring again and again
                if (isAnyBelowItself()) {
                    return false;
                }
            }
            return true;
        }

        private void tightenRow(int from, int via) {
            long first = most[from * MOST_NODES + via];
            if (first >= NO_BOUND) {
                return;
            }
            for (int to = 0; to < nodes; to++) {
                long second = most[via * MOST_NODES + to];
                if (second < NO_BOUND && first + second < most[from * MOST_NODES + to]) {
                    most[from * MOST_NODES + to] = first + second;
                }
            }
        }

        private boolean isAnyBelowItself() {
            for (int i = 0; i < nodes; i++) {
                if (most[i * MOST_NODES + i] < 0) {
                    return true;
                }
            }
            return false;
        }

        private boolean areNodes(int from, int to) {
            return isWithin(from, 0, nodes - 1) && isWithin(to, 0, nodes - 1);
        }
    }

    /**
     * Finds THE QUARREL. TRACES have no GOOD TIMES just if bounds lead round a ring of some of them to less than 0,
     * so the fewest are those of the shortest such ring; a step over node 0 (two SPANS) costs no TRACE.
     */
    private static final class QuarrelSeeker {
        private final long[] steps = new long[MOST_TRACES * MOST_TRACES];
        private long[] walks = new long[MOST_TRACES * MOST_TRACES];
        private long[] longer = new long[MOST_TRACES * MOST_TRACES];
        private int size = 0;

        /** THE QUARREL as bits; 0: there is none. */
        int seek(Bounds bounds) {
            size = Math.min(bounds.nodes() - 1, MOST_TRACES);
            takeSteps(bounds);
            int all = (1 << size) - 1;
            startWalks(all);
            for (int length = 2; length <= size; length++) {
                lengthenWalks(all);
                int onRings = startsBelowZero();
                if (onRings != 0) {
                    return leastRing(onRings, length);
                }
            }
            return 0;
        }

        /** Of the rings of the shortest length the least as bits: the highest TRACE goes first, if it can. */
        private int leastRing(int onRings, int length) {
            int kept = onRings;
            for (int t = size - 1; t >= 0 && Integer.bitCount(kept) > length; t--) {
                if ((kept >> t & 1) != 0) {
                    int others = onRingsAmong(kept & ~(1 << t), length);
                    kept = others != 0 ? others : kept;
                }
            }
            return kept;
        }

        private int onRingsAmong(int allowed, int length) {
            startWalks(allowed);
            for (int done = 1; done < length; done++) {
                lengthenWalks(allowed);
            }
            return startsBelowZero();
        }

        private void takeSteps(Bounds bounds) {
            Arrays.fill(steps, NO_BOUND);
            for (int i = 0; i < size; i++) {
                for (int j = 0; j < size; j++) {
                    if (i != j) {
                        steps[i * MOST_TRACES + j] = Math.min(bounds.between(i + 1, j + 1), stepOverZero(bounds, i, j));
                    }
                }
            }
        }

        private long stepOverZero(Bounds bounds, int i, int j) {
            long first = bounds.between(i + 1, 0);
            long second = bounds.between(0, j + 1);
            return first < NO_BOUND && second < NO_BOUND ? first + second : NO_BOUND;
        }

        private void startWalks(int allowed) {
            Arrays.fill(walks, NO_BOUND);
            for (int i = 0; i < size; i++) {
                for (int j = 0; j < size; j++) {
                    if ((allowed >> i & 1) != 0 && (allowed >> j & 1) != 0) {
                        walks[i * MOST_TRACES + j] = steps[i * MOST_TRACES + j];
                    }
                }
            }
        }

        private void lengthenWalks(int allowed) {
            Arrays.fill(longer, NO_BOUND);
            for (int from = 0; from < size; from++) {
                for (int via = 0; via < size; via++) {
                    if (walks[from * MOST_TRACES + via] < NO_BOUND) {
                        addStep(from, via, allowed);
                    }
                }
            }
            long[] old = walks;
            walks = longer;
            longer = old;
        }

        private void addStep(int from, int via, int allowed) {
            long walk = walks[from * MOST_TRACES + via];
            for (int to = 0; to < size; to++) {
                long step = steps[via * MOST_TRACES + to];
                if ((allowed >> to & 1) != 0 && step < NO_BOUND && walk + step < longer[from * MOST_TRACES + to]) {
                    longer[from * MOST_TRACES + to] = walk + step;
                }
            }
        }

        private int startsBelowZero() {
            int starts = 0;
            for (int i = 0; i < size; i++) {
                if (walks[i * MOST_TRACES + i] < 0) {
                    starts |= 1 << i;
                }
            }
            return starts;
        }
    }

    /** The DEEDS, and what the STORY that was gathered last costs, leaves and wipes. */
    private static final class Deeds {
        private final int[] fees = new int[DEEDS];
        private final int[] alwaysRows = new int[DEEDS];
        private final int[] mostlyRows = new int[DEEDS];
        private final int[] wipesRows = new int[DEEDS];
        private int known = 0;
        private int fee = 0;
        private int always = 0;
        private int mostly = 0;
        private int wiped = 0;

        void learn(int d, int price, int alwaysRow, int mostlyRow, int wipesRow) {
            if (isWithin(d, 0, DEEDS - 1)) {
                fees[d] = price;
                alwaysRows[d] = alwaysRow;
                mostlyRows[d] = mostlyRow;
                wipesRows[d] = wipesRow;
                known |= 1 << d;
            }
        }

        void unlearn(int d) {
            if (isWithin(d, 0, DEEDS - 1)) {
                known &= ~(1 << d);
            }
        }

        boolean isKnown(int d) {
            return isWithin(d, 0, DEEDS - 1) && (known >> d & 1) != 0;
        }

        boolean areAllKnown(int bits) {
            return (bits & ~known) == 0;
        }

        int knownSize() {
            return Integer.bitCount(known);
        }

        void gather(int bits) {
            fee = 0;
            always = 0;
            mostly = 0;
            wiped = 0;
            for (int d = 0; d < DEEDS; d++) {
                if ((bits >> d & 1) != 0) {
                    fee += fees[d];
                    always |= alwaysRows[d];
                    mostly |= mostlyRows[d];
                    wiped |= wipesRows[d];
                }
            }
        }

        int fee() {
            return fee;
        }

        int always() {
            return always;
        }

        int onlyMostly() {
            return mostly & ~always;
        }

        int leaves() {
            return always | mostly;
        }

        int wiped() {
            return wiped;
        }
    }

    /** The LEAST STORIES. They are found again only when they are asked for and something has changed. */
    private static final class LeastStories {
        private final int[] rows = new int[STORIES];
        private final int[] leavers = new int[MARKS];
        private int size = 0;
        private int commonCost = 0;
        private int inAll = 0;
        private int inSome = 0;
        private int miss = 10;
        private int forge = 25;
        private boolean outdated = true;

        void charge(int missPrice, int forgePrice) {
            miss = missPrice;
            forge = forgePrice;
        }

        void outdate() {
            outdated = true;
        }

        void update(Deeds deeds, Traces traces) {
            if (outdated) {
                outdated = false;
                findRows(deeds, traces);
                tallyRows(deeds);
            }
        }

        int size() {
            return size;
        }

        int commonCost() {
            return commonCost;
        }

        int at(int i) {
            return isWithin(i, 0, size - 1) ? rows[i] : 0;
        }

        boolean isInAll(int d) {
            return (inAll >> d & 1) != 0;
        }

        boolean isInSome(int d) {
            return (inSome >> d & 1) != 0;
        }

        int partedBy(int mark) {
            return isWithin(mark, 0, MARKS - 1) ? Math.min(leavers[mark], size - leavers[mark]) : 0;
        }

        /** Whether the STORY that was gathered last is POSSIBLE. */
        boolean isPossible(Deeds deeds, Traces traces) {
            int lacking = deeds.always() & ~traces.marksThere() & ~deeds.wiped();
            int unexplained = traces.marksToExplain() & ~deeds.leaves();
            return lacking == 0 && unexplained == 0;
        }

        /** COST of the STORY that was gathered last. */
        int priceOf(Deeds deeds, Traces traces) {
            int missing = deeds.onlyMostly() & ~traces.marksThere() & ~deeds.wiped();
            return deeds.fee() + miss * Integer.bitCount(missing) + forge * traces.howManyNotOf(deeds.leaves());
        }

        private void findRows(Deeds deeds, Traces traces) {
            size = 0;
            for (int bits = 0; bits < STORIES; bits++) {
                if (deeds.areAllKnown(bits)) {
                    deeds.gather(bits);
                    if (isPossible(deeds, traces)) {
                        enter(bits, priceOf(deeds, traces));
                    }
                }
            }
        }

        private void enter(int bits, int itsCost) {
            if (size > 0 && itsCost > commonCost) {
                return;
            }
            if (size > 0 && itsCost < commonCost) {
                size = 0;
            }
            if (size < STORIES) {
                rows[size] = bits;
                size++;
                commonCost = itsCost;
            }
        }

        private void tallyRows(Deeds deeds) {
            inAll = STORIES - 1;
            inSome = 0;
            Arrays.fill(leavers, 0);
            for (int i = 0; i < size; i++) {
                inAll &= rows[i];
                inSome |= rows[i];
                deeds.gather(rows[i]);
                int left = deeds.leaves() & ~deeds.wiped();
                for (int mark = 0; mark < MARKS; mark++) {
                    leavers[mark] += left >> mark & 1;
                }
            }
        }
    }
}
