import java.util.ArrayList;
import java.util.List;

/**
 * The document once more, as slow and as near to its words as can be, to compare AfterDesk with: sets are tried one by
 * one, MARKS are looked at one by one, and nothing is kept from one call to the next.
 */
final class Model {
    private static final long FREE = Long.MAX_VALUE;

    private record Piece(int from, int low, int high) {
    }

    private record Trace(int kind, int clock, int reading, int mark) {
    }

    private record Tie(int a, int b, int d) {
    }

    private record Deed(int price, int always, int mostly, int wipes) {
    }

    private final List<List<Piece>> clocks = new ArrayList<>();
    private final List<Trace> traces = new ArrayList<>();
    private final List<Tie> ties = new ArrayList<>();
    private final Deed[] deeds = new Deed[10];
    private final List<Integer> waiting = new ArrayList<>();
    private final long[] findings = new long[6];
    private int miss = 10;
    private int forge = 25;

    Model() {
        for (int i = 0; i < 4; i++) {
            clocks.add(new ArrayList<>());
        }
    }

    /** Answers a call that is written as Calls says. */
    long call(String call) {
        return call(Calls.nameOf(call), Calls.numbersOf(call), Calls.flagOf(call));
    }

    /** Answers the call of the public face that has this name. */
    long call(String name, int[] n, boolean flag) {
        long answer = switch (name) {
            case "piece" -> piece(n[0], n[1], n[2], n[3]);
            case "reset" -> reset(n[0]);
            case "offset" -> offset(n[0], n[1], flag);
            case "trace" -> trace(n[0], n[1], n[2], n[3]);
            case "drop" -> drop();
            case "about" -> about(n[0], n[1]);
            case "as" -> as(n[0], n[1]);
            case "span" -> span(n[0], flag);
            case "tie" -> tie(n[0], n[1], n[2]);
            case "untie" -> untie(n[0]);
            case "time" -> time(n[0], -1, flag);
            case "apart" -> apart(n[0], n[1], flag);
            case "quarrel" -> quarrel();
            case "without" -> n[0] == n[1] || !isTrace(n[1]) ? Due.BEYOND : time(n[0], n[1], flag);
            case "deed" -> deed(n[0], n[1], n[2], n[3], n[4]);
            case "forget" -> forget(n[0]);
            case "prices" -> prices(n[0], n[1]);
            case "cost" -> cost(n[0]);
            case "least" -> leastStories().isEmpty() ? Due.NONE : cost(leastStories().get(0));
            case "many" -> leastStories().size();
            case "story" -> story(n[0]);
            case "sure" -> sure(n[0]);
            case "parts" -> parts(n[0]);
            case "ask" -> ask();
            case "tell" -> tell(n[0]);
            case "check" -> check();
            case "count" -> count(n[0]);
            case "found" -> n[0] < 1 || n[0] > 5 ? Due.BEYOND : findings[n[0]];
            default -> throw new IllegalArgumentException(name);
        };
        if (answer < Due.LOW) {
            findings[(int) (Due.LOW - answer)]++;
        }
        return answer;
    }

    int traceCount() {
        return traces.size();
    }

    private static boolean in(int value, int least, int greatest) {
        return least <= value && value <= greatest;
    }

    private boolean isTrace(int t) {
        return in(t, 0, traces.size() - 1);
    }

    private long piece(int clock, int from, int low, int high) {
        boolean told = in(clock, 0, 3) && in(from, 0, 1000000) && in(low, -100000, 100000)
                && in(high, -100000, 100000) && low <= high;
        if (!told) {
            return Due.BEYOND;
        }
        List<Piece> pieces = clocks.get(clock);
        if (!pieces.isEmpty() && from <= pieces.get(pieces.size() - 1).from()) {
            return Due.BEYOND;
        }
        if (pieces.size() == 5) {
            return Due.FULL;
        }
        pieces.add(new Piece(from, low, high));
        return pieces.size();
    }

    private long reset(int clock) {
        if (!in(clock, 0, 3)) {
            return Due.BEYOND;
        }
        int were = clocks.get(clock).size();
        clocks.get(clock).clear();
        return were;
    }

    private Piece pieceOf(int clock, int reading) {
        List<Piece> pieces = clocks.get(clock);
        for (int i = 0; i < pieces.size(); i++) {
            int end = i + 1 < pieces.size() ? pieces.get(i + 1).from() - 1 : 1000000;
            if (in(reading, pieces.get(i).from(), end)) {
                return pieces.get(i);
            }
        }
        return null;
    }

    private long offset(int clock, int reading, boolean high) {
        if (!in(clock, 0, 3) || !in(reading, 0, 1000000)) {
            return Due.BEYOND;
        }
        Piece piece = pieceOf(clock, reading);
        if (piece == null) {
            return Due.NONE;
        }
        return high ? piece.high() : piece.low();
    }

    private long trace(int kind, int clock, int reading, int mark) {
        if (!in(kind, 0, 2) || !in(clock, 0, 3) || !in(reading, 0, 1000000) || !in(mark, 0, 15)) {
            return Due.BEYOND;
        }
        if (traces.size() == 12) {
            return Due.FULL;
        }
        traces.add(new Trace(kind, clock, reading, mark));
        return traces.size() - 1;
    }

    private long drop() {
        if (traces.isEmpty()) {
            return Due.NONE;
        }
        int last = traces.size() - 1;
        traces.remove(last);
        ties.removeIf(tie -> tie.a() == last || tie.b() == last);
        return last;
    }

    private long about(int t, int what) {
        if (!isTrace(t) || !in(what, 0, 3)) {
            return Due.BEYOND;
        }
        Trace trace = traces.get(t);
        return new int[] {trace.kind(), trace.clock(), trace.reading(), trace.mark()}[what];
    }

    private long as(int t, int kind) {
        if (!isTrace(t) || !in(kind, 0, 2)) {
            return Due.BEYOND;
        }
        Trace trace = traces.get(t);
        boolean isSo = trace.kind() == kind || kind == 0;
        return isSo ? trace.mark() : Due.KIND;
    }

    private long span(int t, boolean upper) {
        if (!isTrace(t)) {
            return Due.BEYOND;
        }
        Trace trace = traces.get(t);
        Piece piece = pieceOf(trace.clock(), trace.reading());
        if (piece == null || trace.kind() == 1 && upper) {
            return Due.NONE;
        }
        return trace.reading() + (upper ? piece.high() : piece.low());
    }

    private long tie(int a, int b, int d) {
        if (!isTrace(a) || !isTrace(b) || a == b || !in(d, -100000, 100000)) {
            return Due.BEYOND;
        }
        if (ties.size() == 24) {
            return Due.FULL;
        }
        ties.add(new Tie(a, b, d));
        return ties.size();
    }

    private long untie(int i) {
        if (!in(i, 0, ties.size() - 1)) {
            return Due.BEYOND;
        }
        ties.remove(i);
        return ties.size();
    }

    /** Least times of the TRACES of a set, FREE where there is no lower end; null: they have no GOOD TIMES. */
    private long[] earliest(int set) {
        return pushed(set, false);
    }

    /**
     * Pushes ends along the TIES until nothing moves. Upwards it moves lower ends; downwards it moves upper ends, told
     * as their negatives, so that both are pushed up.
     */
    private long[] pushed(int set, boolean down) {
        if (!hasGoodTimes(set)) {
            return null;
        }
        long[] ends = new long[traces.size()];
        for (int t = 0; t < ends.length; t++) {
            long end = span(t, down);
            boolean free = end < Due.LOW || (set >> t & 1) == 0;
            ends[t] = free ? FREE : down ? -end : end;
        }
        for (int round = 0; round <= traces.size(); round++) {
            for (Tie tie : ties) {
                int source = down ? tie.b() : tie.a();
                int target = down ? tie.a() : tie.b();
                boolean both = (set >> source & 1) != 0 && (set >> target & 1) != 0;
                if (both && ends[source] != FREE && (ends[target] == FREE || ends[target] < ends[source] + tie.d())) {
                    ends[target] = ends[source] + tie.d();
                }
            }
        }
        return ends;
    }

    private long[] latest(int set) {
        long[] ends = pushed(set, true);
        for (int t = 0; ends != null && t < ends.length; t++) {
            ends[t] = ends[t] == FREE ? FREE : -ends[t];
        }
        return ends;
    }

    /** Puts every TRACE as low as it may be (free ones far below all others) and pushes; what never rests isn't good. */
    private boolean hasGoodTimes(int set) {
        long[] times = new long[traces.size()];
        for (int t = 0; t < times.length; t++) {
            long low = span(t, false);
            times[t] = low < Due.LOW ? -1000000000L : low;
        }
        boolean moved = true;
        for (int round = 0; moved && round <= traces.size() + 1; round++) {
            moved = false;
            for (Tie tie : ties) {
                boolean both = (set >> tie.a() & 1) != 0 && (set >> tie.b() & 1) != 0;
                if (both && times[tie.b()] < times[tie.a()] + tie.d()) {
                    times[tie.b()] = times[tie.a()] + tie.d();
                    moved = true;
                }
            }
        }
        if (moved) {
            return false;
        }
        for (int t = 0; t < times.length; t++) {
            long high = span(t, true);
            if ((set >> t & 1) != 0 && high >= Due.LOW && times[t] > high) {
                return false;
            }
        }
        return true;
    }

    private int all() {
        return (1 << traces.size()) - 1;
    }

    private long time(int t, int leftOut, boolean latest) {
        if (!isTrace(t)) {
            return Due.BEYOND;
        }
        int set = leftOut < 0 ? all() : all() & ~(1 << leftOut);
        long[] ends = latest ? latest(set) : earliest(set);
        if (ends == null) {
            return Due.STATE;
        }
        return ends[t] == FREE ? Due.NONE : ends[t];
    }

    /**
     * Looks for the edge by halving: the most is the greatest d that a TIE of a and b may have, so that there are GOOD
     * TIMES with it; the least likewise, by a TIE of b and a.
     */
    private long apart(int a, int b, boolean most) {
        if (!isTrace(a) || !isTrace(b) || a == b) {
            return Due.BEYOND;
        }
        if (!hasGoodTimes(all())) {
            return Due.STATE;
        }
        // TRACE b behind a by at most d is TRACE b ahead of a by -d at least
        long good = most ? -40000000 : 40000000;
        long bad = -good;
        if (goodWith(most ? new Tie(a, b, (int) bad) : new Tie(b, a, (int) -bad))) {
            return Due.NONE;
        }
        while (Math.abs(bad - good) > 1) {
            long middle = Math.floorDiv(good + bad, 2L);
            boolean fits = goodWith(most ? new Tie(a, b, (int) middle) : new Tie(b, a, (int) -middle));
            good = fits ? middle : good;
            bad = fits ? bad : middle;
        }
        return good;
    }

    private boolean goodWith(Tie tie) {
        ties.add(tie);
        boolean good = hasGoodTimes(all());
        ties.remove(ties.size() - 1);
        return good;
    }

    private long quarrel() {
        if (hasGoodTimes(all())) {
            return Due.NONE;
        }
        for (int size = 1; size <= traces.size(); size++) {
            for (int set = 1; set <= all(); set++) {
                if (Integer.bitCount(set) == size && !hasGoodTimes(set)) {
                    return set;
                }
            }
        }
        throw new IllegalStateException("a quarrel without a set");
    }

    private long deed(int d, int price, int always, int mostly, int wipes) {
        boolean rows = in(always, 0, 65535) && in(mostly, 0, 65535) && in(wipes, 0, 65535);
        if (!in(d, 0, 9) || !in(price, 0, 1000) || !rows) {
            return Due.BEYOND;
        }
        deeds[d] = new Deed(price, always, mostly, wipes);
        return 1;
    }

    private long forget(int d) {
        if (!in(d, 0, 9)) {
            return Due.BEYOND;
        }
        boolean was = deeds[d] != null;
        deeds[d] = null;
        return was ? 1 : 0;
    }

    private long prices(int newMiss, int newForge) {
        if (!in(newMiss, 0, 1000) || !in(newForge, 0, 1000)) {
            return Due.BEYOND;
        }
        miss = newMiss;
        forge = newForge;
        return 1;
    }

    private List<Deed> deedsOf(int story) {
        List<Deed> those = new ArrayList<>();
        for (int d = 0; d < 32; d++) {
            if ((story >>> d & 1) != 0) {
                if (d > 9 || deeds[d] == null) {
                    return null;
                }
                those.add(deeds[d]);
            }
        }
        return those;
    }

    private boolean isThere(int mark) {
        return traces.stream().anyMatch(trace -> trace.mark() == mark);
    }

    private static boolean has(int row, int mark) {
        return (row >> mark & 1) != 0;
    }

    private static boolean leavesAlways(List<Deed> those, int mark) {
        return those.stream().anyMatch(deed -> has(deed.always(), mark));
    }

    private static boolean leavesMostly(List<Deed> those, int mark) {
        return those.stream().anyMatch(deed -> has(deed.mostly(), mark));
    }

    private static boolean wipes(List<Deed> those, int mark) {
        return those.stream().anyMatch(deed -> has(deed.wipes(), mark));
    }

    private static boolean leaves(List<Deed> those, int mark) {
        return leavesAlways(those, mark) || leavesMostly(those, mark);
    }

    private boolean isPossible(List<Deed> those) {
        for (int m = 0; m < 16; m++) {
            int mark = m;
            if (leavesAlways(those, mark) && !isThere(mark) && !wipes(those, mark)) {
                return false;
            }
            boolean byForgedAlone = traces.stream().allMatch(trace -> trace.mark() != mark || trace.kind() == 2);
            if (isThere(mark) && !leaves(those, mark) && !byForgedAlone) {
                return false;
            }
        }
        return true;
    }

    private long cost(int story) {
        List<Deed> those = deedsOf(story);
        if (those == null) {
            return Due.BEYOND;
        }
        if (!isPossible(those)) {
            return Due.STATE;
        }
        long sum = 0;
        for (Deed deed : those) {
            sum += deed.price();
        }
        for (int mark = 0; mark < 16; mark++) {
            boolean onlyMostly = leavesMostly(those, mark) && !leavesAlways(those, mark);
            if (onlyMostly && !isThere(mark) && !wipes(those, mark)) {
                sum += miss;
            }
        }
        for (Trace trace : traces) {
            if (!leaves(those, trace.mark())) {
                sum += forge;
            }
        }
        return sum;
    }

    private List<Integer> leastStories() {
        long least = Long.MAX_VALUE;
        List<Integer> stories = new ArrayList<>();
        for (int story = 0; story < 1024; story++) {
            long cost = cost(story);
            if (cost < Due.LOW) {
                continue;
            }
            if (cost < least) {
                stories.clear();
                least = cost;
            }
            if (cost == least) {
                stories.add(story);
            }
        }
        return stories;
    }

    private long story(int i) {
        if (i < 0) {
            return Due.BEYOND;
        }
        List<Integer> stories = leastStories();
        return i < stories.size() ? stories.get(i) : Due.NONE;
    }

    private long sure(int d) {
        if (!in(d, 0, 9) || deeds[d] == null) {
            return Due.BEYOND;
        }
        List<Integer> stories = leastStories();
        if (stories.isEmpty()) {
            return Due.NONE;
        }
        if (stories.stream().allMatch(story -> has(story, d))) {
            return 1;
        }
        return stories.stream().noneMatch(story -> has(story, d)) ? -1 : 0;
    }

    private long parts(int mark) {
        if (!in(mark, 0, 15)) {
            return Due.BEYOND;
        }
        if (isThere(mark)) {
            return Due.STATE;
        }
        List<Integer> stories = leastStories();
        return stories.isEmpty() ? Due.NONE : partedBy(stories, mark);
    }

    private long partedBy(List<Integer> stories, int mark) {
        long leaving = 0;
        long others = 0;
        for (int story : stories) {
            List<Deed> those = deedsOf(story);
            if (leaves(those, mark) && !wipes(those, mark)) {
                leaving++;
            } else {
                others++;
            }
        }
        return Math.min(leaving, others);
    }

    private long ask() {
        List<Integer> stories = leastStories();
        long best = Due.NONE;
        long most = -1;
        for (int mark = 0; mark < 16 && !stories.isEmpty(); mark++) {
            if (!isThere(mark) && partedBy(stories, mark) > most) {
                most = partedBy(stories, mark);
                best = mark;
            }
        }
        return best;
    }

    private long tell(int v) {
        if (waiting.size() == 30) {
            return Due.FULL;
        }
        waiting.add(v);
        return waiting.size();
    }

    private long check() {
        List<Integer> told = new ArrayList<>(waiting);
        waiting.clear();
        long[] earliest = earliest(all());
        long[] latest = latest(all());
        if (earliest == null) {
            return Due.STATE;
        }
        for (int t = 0; t < traces.size(); t++) {
            boolean missing = told.size() < 2 * t + 2;
            boolean none = earliest[t] == FREE || latest[t] == FREE;
            if (missing || none || told.get(2 * t) != earliest[t] || told.get(2 * t + 1) != latest[t]) {
                return 1 + t;
            }
        }
        return told.size() > 2 * traces.size() ? 99 : 0;
    }

    private long count(int what) {
        return switch (what) {
            case 0 -> traces.size();
            case 1 -> ties.size();
            case 2 -> 10 - java.util.Collections.frequency(java.util.Arrays.asList(deeds), null);
            case 3 -> waiting.size();
            case 4 -> traces.stream().map(Trace::mark).distinct().count();
            default -> Due.BEYOND;
        };
    }
}
