/** The boundary cases of times: promises 12 to 15, and what "Terms" says of GOOD TIMES and THE QUARREL. */
public final class TimeEdgesTest {
    private static final long BEYOND = Due.BEYOND;
    private static final long NONE = Due.NONE;
    private static final long STATE = Due.STATE;

    public static void main(String[] args) {
        timeOfEachTrace();
        timeOfOneAlone();
        timeWithoutEnds();
        timeByATieThatJustHolds();
        timeOfLeastAndGreatest();
        timeBeyondAheadOfState();
        timeStateAheadOfNone();
        apartOfEachTrace();
        apartOfTheSame();
        apartWithoutEnds();
        apartOfLeastAndGreatest();
        apartBeyondAheadOfState();
        apartStateAheadOfNone();
        quarrelOfNone();
        quarrelOfASpanThatJustHolds();
        quarrelOfARingThatJustHolds();
        quarrelOfTwoAndOfAll();
        quarrelOfTheFewest();
        quarrelOfTheLeastBits();
        quarrelOfRingsThatShareTraces();
        quarrelBesideAWiderWay();
        quarrelOfLeastAndGreatest();
        withoutEachTrace();
        withoutTheSame();
        withoutTheOnlyOther();
        withoutEnds();
        withoutBeyondAheadOfState();
        withoutStateAheadOfNone();
        withoutOneOfTheQuarrel();
        Due.end();
    }

    private static void timeOfEachTrace() {
        Edge.of("12 no such trace", Desks.PLAIN, "time 0 true", 0).letsIn(0, 20).letsIn(2, 33).refuses(-1, 5);
        Edge.of("12 no trace", Desks.EMPTY, "time 0 false", 0).refuses(-1, 0);
        Edge.of("12 no such trace", Desks.FULL, "time 0 false", 0).letsIn(0, 9).letsIn(11, 52).refuses(-1, 12);
    }

    private static void timeOfOneAlone() {
        AfterDesk x = new AfterDesk();
        x.piece(0, 5, 3, 4);
        x.trace(2, 0, 5, 0);
        Due.is("12 one alone, earliest", x.time(0, false), 8);
        Due.is("12 one alone, latest", x.time(0, true), 9);
        x.reset(0);
        Due.is("12 one alone without ends, earliest", x.time(0, false), NONE);
        Due.is("12 one alone without ends, latest", x.time(0, true), NONE);
    }

    private static void timeWithoutEnds() {
        Refusal.is("12 copied, no latest", Desks.PLAIN, "time 1 true", NONE);
        Refusal.is("12 a clock without pieces, no earliest", Desks.PLAIN, "time 3 false", NONE);
        Refusal.is("12 a clock without pieces, no latest", Desks.PLAIN, "time 3 true", NONE);
        Refusal.is("12 ahead of all pieces, no earliest", Desks.PLAIN, "time 4 false", NONE);
        AfterDesk x = Desks.PLAIN.make();
        x.tie(3, 0, 100000);
        Due.is("12 a tie gives a latest", x.time(3, true), -99980);
        Due.is("12 but no earliest", x.time(3, false), NONE);
        x.tie(1, 4, -100000);
        Due.is("12 a tie gives an earliest", x.time(4, false), -99975);
        Due.is("12 but no latest", x.time(4, true), NONE);
        Due.is("12 nor one to the copied", x.time(1, true), NONE);
    }

    private static void timeByATieThatJustHolds() {
        AfterDesk x = new AfterDesk();
        x.piece(0, 0, 0, 10);
        x.trace(0, 0, 100, 0);
        x.trace(0, 0, 105, 0);
        x.tie(1, 0, 5);
        Due.is("12 as late as can be", x.time(0, true), 110);
        Due.is("12 as early as can be", x.time(0, false), 110);
        Due.is("12 the one ahead, earliest", x.time(1, false), 105);
        Due.is("12 the one ahead, latest", x.time(1, true), 105);
        x.tie(1, 0, 6);
        Due.is("12 one more, earliest", x.time(0, false), STATE);
        Due.is("12 one more, latest", x.time(0, true), STATE);
    }

    /** A chain of twelve at the ends of everything. */
    private static AfterDesk chain(int reading, int shift, int free) {
        AfterDesk x = new AfterDesk();
        x.piece(0, 0, shift, shift);
        for (int i = 0; i < 12; i++) {
            x.trace(0, i == free ? 0 : 1, reading, 0);
        }
        for (int i = 1; i < 12; i++) {
            x.tie(i - 1, i, 100000);
        }
        return x;
    }

    private static void timeOfLeastAndGreatest() {
        AfterDesk x = chain(1000000, 100000, 0);
        Due.is("12 the greatest earliest", x.time(11, false), 2200000);
        Due.is("12 no latest behind it", x.time(11, true), NONE);
        AfterDesk y = chain(0, -100000, 11);
        Due.is("12 the least latest", y.time(0, true), -1200000);
        Due.is("12 no earliest ahead of it", y.time(0, false), NONE);
    }

    private static void timeBeyondAheadOfState() {
        Refusal.is("12 no good times, no such trace", Desks.QUARRELLING, "time 5 false", BEYOND);
        Refusal.is("12 no good times, no such trace", Desks.QUARRELLING, "time -1 true", BEYOND);
    }

    private static void timeStateAheadOfNone() {
        for (int trace = 0; trace < 5; trace++) {
            Refusal.is("12 no good times of all", Desks.QUARRELLING, "time " + trace + " false", STATE);
            Refusal.is("12 no good times of all", Desks.QUARRELLING, "time " + trace + " true", STATE);
        }
    }

    private static void apartOfEachTrace() {
        Edge.of("13 no such a", Desks.PLAIN, "apart 0 2 false", 0).letsIn(0, 7).letsIn(4, NONE).refuses(-1, 5);
        Edge.of("13 no such b", Desks.PLAIN, "apart 0 2 true", 1).letsIn(2, 23).letsIn(4, NONE).refuses(-1, 5);
        Edge.of("13 no traces", Desks.EMPTY, "apart 0 1 true", 1).refuses(-1, 0);
        Refusal.is("13 neither", Desks.PLAIN, "apart 5 6 false", BEYOND);
        AfterDesk x = new AfterDesk();
        x.trace(0, 0, 0, 0);
        Due.is("13 one alone", x.apart(0, 1, false), BEYOND);
        Due.is("13 one alone, the other way", x.apart(1, 0, true), BEYOND);
    }

    private static void apartOfTheSame() {
        for (int trace = 0; trace < 5; trace++) {
            Refusal.is("13 the same", Desks.PLAIN, "apart " + trace + " " + trace + " false", BEYOND);
            Refusal.is("13 the same", Desks.PLAIN, "apart " + trace + " " + trace + " true", BEYOND);
        }
    }

    private static void apartWithoutEnds() {
        Refusal.is("13 copied, no most", Desks.PLAIN, "apart 0 1 true", NONE);
        Refusal.is("13 copied, no least the other way", Desks.PLAIN, "apart 1 0 false", NONE);
        Refusal.is("13 free, no least", Desks.PLAIN, "apart 0 3 false", NONE);
        Refusal.is("13 both free, no most", Desks.PLAIN, "apart 3 4 true", NONE);
        AfterDesk x = Desks.PLAIN.make();
        x.tie(3, 4, -7);
        Due.is("13 both free, least by a tie", x.apart(3, 4, false), -7);
        Due.is("13 both free, still no most", x.apart(3, 4, true), NONE);
        x.tie(4, 3, 7);
        Due.is("13 both free, just that", x.apart(3, 4, true), -7);
        Due.is("13 both free, the other way", x.apart(4, 3, false), 7);
    }

    private static void apartOfLeastAndGreatest() {
        AfterDesk x = chain(0, 0, 12);
        Due.is("13 the greatest least", x.apart(0, 11, false), 1100000);
        Due.is("13 no most", x.apart(0, 11, true), NONE);
        Due.is("13 the least most", x.apart(11, 0, true), -1100000);
        AfterDesk y = new AfterDesk();
        y.piece(0, 0, -100000, 100000);
        y.trace(0, 0, 0, 0);
        y.trace(0, 0, 1000000, 0);
        Due.is("13 the most by spans", y.apart(0, 1, true), 1200000);
        Due.is("13 the least by spans", y.apart(0, 1, false), 800000);
        Due.is("13 the least the other way", y.apart(1, 0, false), -1200000);
    }

    private static void apartBeyondAheadOfState() {
        Refusal.is("13 no good times, no such a", Desks.QUARRELLING, "apart 5 0 false", BEYOND);
        Refusal.is("13 no good times, no such b", Desks.QUARRELLING, "apart 0 5 true", BEYOND);
        Refusal.is("13 no good times, the same", Desks.QUARRELLING, "apart 0 0 false", BEYOND);
    }

    private static void apartStateAheadOfNone() {
        Refusal.is("13 no good times of all", Desks.QUARRELLING, "apart 0 2 false", STATE);
        Refusal.is("13 no good times of all, though both are free", Desks.QUARRELLING, "apart 3 4 true", STATE);
    }

    private static void quarrelOfNone() {
        Refusal.is("14 no traces", Desks.EMPTY, "quarrel", NONE);
        Refusal.is("14 all have good times", Desks.PLAIN, "quarrel", NONE);
        Refusal.is("14 twelve have good times", Desks.FULL, "quarrel", NONE);
        AfterDesk x = new AfterDesk();
        x.piece(0, 0, 0, 0);
        x.trace(0, 0, 0, 0);
        Due.is("14 one alone has good times", x.quarrel(), NONE);
        Due.is("14 of a quarrel", Desks.QUARRELLING.make().quarrel(), 3);
    }

    private static void quarrelOfASpanThatJustHolds() {
        AfterDesk x = new AfterDesk();
        x.piece(0, 0, 0, 10);
        x.trace(0, 0, 100, 0);
        x.trace(0, 0, 105, 0);
        x.tie(1, 0, 5);
        Due.is("14 just good", x.quarrel(), NONE);
        x.tie(1, 0, 6);
        Due.is("14 just not good", x.quarrel(), 3);
        x.untie(1);
        Due.is("14 good again", x.quarrel(), NONE);
    }

    private static void quarrelOfARingThatJustHolds() {
        AfterDesk x = new AfterDesk();
        x.trace(0, 0, 0, 0);
        x.trace(0, 0, 0, 0);
        x.tie(0, 1, 100000);
        x.tie(1, 0, -100000);
        Due.is("14 a ring of 0", x.quarrel(), NONE);
        x.tie(1, 0, -99999);
        Due.is("14 a ring above 0", x.quarrel(), 3);
    }

    private static void quarrelOfTwoAndOfAll() {
        AfterDesk x = new AfterDesk();
        for (int i = 0; i < 12; i++) {
            x.trace(i % 3, i % 4, 0, 0);
        }
        for (int i = 0; i < 12; i++) {
            x.tie(i, (i + 1) % 12, i == 0 ? 1 : 0);
        }
        Due.is("14 all twelve", x.quarrel(), 4095);
        x.tie(11, 10, 1);
        Due.is("14 the last two", x.quarrel(), 3072);
        x.tie(1, 0, 0);
        Due.is("14 the first two", x.quarrel(), 3);
    }

    private static void quarrelOfTheFewest() {
        AfterDesk x = new AfterDesk();
        for (int i = 0; i < 5; i++) {
            x.trace(0, 0, 0, 0);
        }
        x.tie(0, 1, 1);
        x.tie(1, 2, 1);
        x.tie(2, 0, 1);
        Due.is("14 three", x.quarrel(), 7);
        x.tie(3, 4, 1);
        x.tie(4, 3, 0);
        Due.is("14 two ahead of three of lesser bits", x.quarrel(), 24);
    }

    private static void quarrelOfTheLeastBits() {
        AfterDesk x = new AfterDesk();
        for (int i = 0; i < 4; i++) {
            x.trace(0, 0, 0, 0);
        }
        int[][] pairs = {{2, 3}, {1, 3}, {0, 3}, {1, 2}, {0, 2}, {0, 1}};
        for (int[] pair : pairs) {
            x.tie(pair[0], pair[1], 1);
            x.tie(pair[1], pair[0], 1);
            Due.is("14 of several the least", x.quarrel(), 1 << pair[0] | 1 << pair[1]);
        }
    }

    private static void quarrelOfRingsThatShareTraces() {
        AfterDesk x = new AfterDesk();
        for (int i = 0; i < 6; i++) {
            x.trace(0, 0, 0, 0);
        }
        int[][] rings = {{5, 4, 3}, {5, 4, 0}, {4, 3, 1}, {4, 2, 0}, {3, 2, 1}, {3, 1, 0}};
        int[] due = {56, 49, 26, 21, 14, 11};
        for (int i = 0; i < rings.length; i++) {
            for (int j = 0; j < 3; j++) {
                x.tie(rings[i][j], rings[i][(j + 1) % 3], j == 2 ? -40 : 21);
            }
            Due.is("14 of threes that share traces the least", x.quarrel(), due[i]);
        }
    }

    /** From the first TRACE to the last there are two ways, and only the way over TRACE 1 is too long. */
    private static void quarrelBesideAWiderWay() {
        AfterDesk x = new AfterDesk();
        for (int i = 0; i < 4; i++) {
            x.trace(0, 0, 0, 0);
        }
        x.tie(3, 1, 5);
        x.tie(1, 0, 5);
        x.tie(3, 2, -20);
        x.tie(2, 0, 1);
        x.tie(0, 3, -10);
        Due.is("14 both ways just hold", x.quarrel(), NONE);
        x.tie(0, 3, -9);
        Due.is("14 one way doesn't", x.quarrel(), 11);
    }

    /** From the first TRACE it takes eleven times the greatest d to the last, whose latest is the greatest. */
    private static AfterDesk farChain(int firstReading) {
        AfterDesk x = new AfterDesk();
        x.piece(0, 0, 0, 0);
        x.piece(0, 1000000, -100000, 100000);
        for (int i = 0; i < 12; i++) {
            x.trace(0, i % 11 == 0 ? 0 : 1, i == 0 ? firstReading : 1000000, 0);
        }
        for (int i = 1; i < 12; i++) {
            x.tie(i - 1, i, 100000);
        }
        return x;
    }

    private static void quarrelOfLeastAndGreatest() {
        AfterDesk x = farChain(0);
        Due.is("14 just as far as can be", x.quarrel(), NONE);
        Due.is("14 the earliest is the latest", x.time(11, false), 1100000);
        Due.is("14 the latest is the earliest", x.time(11, true), 1100000);
        AfterDesk y = farChain(1);
        Due.is("14 one too far", y.quarrel(), 4095);
        Due.is("14 one too far, no times", y.time(11, false), STATE);
        Due.is("14 one too far, but for one", y.without(11, 5, false), 900000);
    }

    private static void withoutEachTrace() {
        Edge.of("15 no such trace", Desks.PLAIN, "without 0 3 true", 0).letsIn(0, 20).letsIn(2, 33).refuses(-1, 5);
        Edge.of("15 no such other", Desks.PLAIN, "without 2 0 false", 1).letsIn(0, 27).letsIn(4, 27).refuses(-1, 5);
        Edge.of("15 no traces", Desks.EMPTY, "without 0 1 true", 1).refuses(-1, 0);
        Edge.of("15 no such trace", Desks.FULL, "without 0 1 false", 0).letsIn(11, 52).refuses(-1, 12);
        Edge.of("15 no such other", Desks.FULL, "without 0 1 false", 1).letsIn(11, 9).refuses(-1, 12);
        Refusal.is("15 neither", Desks.PLAIN, "without 5 6 true", BEYOND);
    }

    private static void withoutTheSame() {
        for (int trace = 0; trace < 5; trace++) {
            Refusal.is("15 the same", Desks.PLAIN, "without " + trace + " " + trace + " false", BEYOND);
            Refusal.is("15 the same", Desks.PLAIN, "without " + trace + " " + trace + " true", BEYOND);
        }
        AfterDesk x = new AfterDesk();
        x.trace(0, 0, 0, 0);
        Due.is("15 one alone can't be left out", x.without(0, 0, true), BEYOND);
        Due.is("15 one alone, there is no other", x.without(0, 1, true), BEYOND);
    }

    private static void withoutTheOnlyOther() {
        AfterDesk x = new AfterDesk();
        x.piece(0, 0, -2, 2);
        x.trace(0, 0, 10, 0);
        x.trace(0, 0, 10, 0);
        x.tie(0, 1, 4);
        Due.is("15 with the other", x.time(0, true), 8);
        Due.is("15 without the other", x.without(0, 1, true), 12);
        Due.is("15 the first is left out", x.without(1, 0, false), 8);
        x.tie(0, 1, 5);
        Due.is("15 all can't be", x.time(0, true), STATE);
        Due.is("15 one alone can", x.without(0, 1, true), 12);
        Due.is("15 nothing is gone", x.count(0) + x.count(1), 4);
    }

    private static void withoutEnds() {
        Refusal.is("15 copied, no latest", Desks.PLAIN, "without 1 0 true", NONE);
        Refusal.is("15 free, no earliest", Desks.PLAIN, "without 3 0 false", NONE);
        AfterDesk x = new AfterDesk();
        x.piece(0, 0, 0, 0);
        x.trace(1, 0, 5, 0);
        x.trace(0, 0, 9, 0);
        x.tie(0, 1, 0);
        Due.is("15 an end by the other", x.time(0, true), 9);
        Due.is("15 no end without it", x.without(0, 1, true), NONE);
    }

    private static void withoutBeyondAheadOfState() {
        Refusal.is("15 no good times, no such trace", Desks.QUARRELLING, "without 5 2 false", BEYOND);
        Refusal.is("15 no good times, no such other", Desks.QUARRELLING, "without 2 5 true", BEYOND);
        Refusal.is("15 no good times, the same", Desks.QUARRELLING, "without 2 2 false", BEYOND);
    }

    private static void withoutStateAheadOfNone() {
        Refusal.is("15 the quarrel is among the rest", Desks.QUARRELLING, "without 0 2 false", STATE);
        Refusal.is("15 the quarrel is among the rest, free", Desks.QUARRELLING, "without 3 4 true", STATE);
    }

    private static void withoutOneOfTheQuarrel() {
        Edge.of("15 one of the quarrel", Desks.QUARRELLING, "without 2 0 false", 1).letsIn(0, 27).letsIn(1, 27);
        Refusal.is("15 one of the quarrel, free", Desks.QUARRELLING, "without 3 0 true", NONE);
    }
}
