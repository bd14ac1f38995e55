/** The boundary cases of what is told: promises 26 to 29, and what "Terms" says of FINDINGS. */
public final class ToldEdgesTest {
    private static final long BEYOND = Due.BEYOND;
    private static final long NONE = Due.NONE;
    private static final long FULL = Due.FULL;
    private static final long STATE = Due.STATE;
    private static final int LEAST = Integer.MIN_VALUE;
    private static final int GREATEST = Integer.MAX_VALUE;

    public static void main(String[] args) {
        findingsAreTheseNumbers();
        tellAtMostThirty();
        tellEveryNumber();
        tellAgainAfterCheck();
        checkOfNothing();
        checkOfNoTraces();
        checkOfOneTrace();
        checkOfMissingNumbers();
        checkOfNumbersThatAreGone();
        checkOfWrongNumbers();
        checkOfLeastAndGreatestInts();
        checkOfMoreNumbers();
        checkOfTwelveTraces();
        checkOfTracesWithoutEnds();
        checkOfLeastAndGreatestTimes();
        checkWrongAheadOfMore();
        checkStateAheadOfAll();
        checkStateWithNothingTold();
        countEachWhat();
        countOfNothing();
        countOfAFullDesk();
        countOfSharedMarks();
        foundOfEachFinding();
        foundOfNothing();
        foundCountsItsOwn();
        foundCountsEachActOnce();
        foundOfAnswersThatAreNone();
        Due.end();
    }

    private static void findingsAreTheseNumbers() {
        AfterDesk x = new AfterDesk();
        Due.is("terms: BEYOND", x.reset(4), -1000000000001L);
        Due.is("terms: NONE", x.drop(), -1000000000002L);
        x.trace(0, 0, 0, 0);
        Due.is("terms: KIND", x.as(0, 1), -1000000000003L);
        Due.is("terms: STATE", x.parts(0), -1000000000005L);
        for (int i = 0; i < 30; i++) {
            x.tell(i);
        }
        Due.is("terms: FULL", x.tell(30), -1000000000004L);
    }

    private static void tellAtMostThirty() {
        AfterDesk x = new AfterDesk();
        for (int i = 1; i <= 30; i++) {
            Due.is("26 number " + i, x.tell(0), i);
        }
        Due.is("26 the thirty-first", x.tell(0), FULL);
        Due.is("26 thirty wait", x.count(3), 30);
        for (int v : new int[] {LEAST, -1, 0, 1, GREATEST}) {
            Refusal.is("26 thirty wait", Desks.FULL, "tell " + v, FULL);
        }
    }

    private static void tellEveryNumber() {
        Edge.of("26 any number", Desks.EMPTY, "tell 0", 0).letsIn(LEAST, 1).letsIn(-1, 1).letsIn(0, 1).letsIn(GREATEST, 1);
        Edge.of("26 any number", Desks.PLAIN, "tell 0", 0).letsIn(LEAST, 5).letsIn(GREATEST, 5);
    }

    private static void tellAgainAfterCheck() {
        AfterDesk x = Desks.FULL.make();
        Due.is("26 full", x.tell(0), FULL);
        x.check();
        Due.is("26 none wait", x.count(3), 0);
        for (int i = 1; i <= 30; i++) {
            Due.is("26 number " + i + " again", x.tell(0), i);
        }
        Due.is("26 full again", x.tell(0), FULL);
    }

    /** A desk with this many TRACES; that with number i is at 10 * i - 2 up to 10 * i + 3. */
    private static AfterDesk withTraces(int howMany) {
        AfterDesk x = new AfterDesk();
        x.piece(0, 0, -2, 3);
        for (int i = 0; i < howMany; i++) {
            x.trace(0, 0, 10 * i, 0);
        }
        return x;
    }

    /** Tells this many numbers, which are right for as many TRACES as there are. */
    private static void tellRight(AfterDesk x, int howMany) {
        for (int i = 0; i < howMany; i++) {
            x.tell(i / 2 * 10 + (i % 2 == 0 ? -2 : 3));
        }
    }

    private static void checkOfNothing() {
        AfterDesk x = new AfterDesk();
        Due.is("27 nothing is told of nothing", x.check(), 0);
        Due.is("27 nothing again", x.check(), 0);
    }

    private static void checkOfNoTraces() {
        AfterDesk x = new AfterDesk();
        x.tell(0);
        Due.is("27 one number of nothing", x.check(), 99);
        Due.is("27 it is gone", x.check(), 0);
        for (int i = 0; i < 30; i++) {
            x.tell(0);
        }
        Due.is("27 thirty numbers of nothing", x.check(), 99);
        Due.is("27 they are gone", x.check(), 0);
    }

    private static void checkOfOneTrace() {
        long[] due = {1, 1, 0, 99, 99};
        for (int told = 0; told < due.length; told++) {
            AfterDesk x = withTraces(1);
            tellRight(x, told);
            Due.is("27 " + told + " numbers of one trace", x.check(), due[told]);
            Due.is("27 none wait", x.count(3), 0);
        }
    }

    private static void checkOfMissingNumbers() {
        for (int told = 0; told <= 6; told++) {
            AfterDesk x = withTraces(3);
            tellRight(x, told);
            Due.is("27 " + told + " numbers of three traces", x.check(), told == 6 ? 0 : 1 + told / 2);
        }
    }

    private static void checkOfNumbersThatAreGone() {
        AfterDesk x = withTraces(2);
        tellRight(x, 4);
        Due.is("27 right", x.check(), 0);
        Due.is("27 the right ones are gone", x.check(), 1);
        for (int told = 1; told <= 3; told++) {
            tellRight(x, told);
            Due.is("27 the right ones behind " + told + " are gone", x.check(), told == 1 ? 1 : 2);
        }
        AfterDesk y = new AfterDesk();
        y.piece(0, 0, 0, 0);
        y.trace(0, 0, 0, 0);
        Due.is("27 missing isn't 0", y.check(), 1);
        y.tell(0);
        Due.is("27 one missing isn't 0", y.check(), 1);
    }

    private static void checkOfWrongNumbers() {
        for (int place = 0; place < 6; place++) {
            for (int off = -1; off <= 1; off += 2) {
                AfterDesk x = withTraces(3);
                for (int i = 0; i < 6; i++) {
                    x.tell(i / 2 * 10 + (i % 2 == 0 ? -2 : 3) + (i == place ? off : 0));
                }
                Due.is("27 number " + place + " is off by " + off, x.check(), 1 + place / 2);
            }
        }
        AfterDesk x = withTraces(1);
        x.tell(3);
        x.tell(-2);
        Due.is("27 latest ahead of earliest", x.check(), 1);
    }

    private static void checkOfLeastAndGreatestInts() {
        AfterDesk x = withTraces(1);
        x.tell(LEAST);
        x.tell(3);
        Due.is("27 the least int", x.check(), 1);
        x.tell(-2);
        x.tell(GREATEST);
        Due.is("27 the greatest int", x.check(), 1);
        AfterDesk y = new AfterDesk();
        y.trace(0, 0, 0, 0);
        y.tell(LEAST);
        y.tell(GREATEST);
        Due.is("27 no int stands for no end", y.check(), 1);
    }

    private static void checkOfMoreNumbers() {
        for (int more = 1; more <= 24; more++) {
            AfterDesk x = withTraces(3);
            tellRight(x, 6 + more);
            Due.is("27 " + more + " more", x.check(), 99);
        }
    }

    private static void checkOfTwelveTraces() {
        long[] due = {12, 12, 0, 99};
        for (int told = 22; told <= 25; told++) {
            AfterDesk x = withTraces(12);
            tellRight(x, told);
            Due.is("27 " + told + " numbers of twelve traces", x.check(), due[told - 22]);
        }
        Due.is("27 thirty numbers of twelve traces", Desks.FULL.make().check(), 99);
    }

    private static void checkOfTracesWithoutEnds() {
        AfterDesk x = withTraces(1);
        x.trace(1, 0, 10, 0);
        x.tell(-2);
        x.tell(3);
        x.tell(8);
        x.tell(8);
        Due.is("27 no latest", x.check(), 2);
        x.drop();
        x.trace(0, 1, 10, 0);
        x.tie(1, 0, 0);
        x.tell(-2);
        x.tell(3);
        x.tell(0);
        x.tell(3);
        Due.is("27 no earliest", x.check(), 2);
        tellRight(x, 2);
        Due.is("27 no earliest, and nothing told", x.check(), 2);
        x.tie(0, 1, 0);
        x.tell(-2);
        x.tell(3);
        x.tell(-2);
        x.tell(3);
        Due.is("27 both by ties", x.check(), 0);
    }

    private static void checkOfLeastAndGreatestTimes() {
        AfterDesk x = new AfterDesk();
        x.piece(0, 0, -100000, 100000);
        x.trace(0, 0, 0, 0);
        x.trace(0, 0, 1000000, 0);
        x.tell(-100000);
        x.tell(100000);
        x.tell(900000);
        x.tell(1100000);
        Due.is("27 the ends of all spans", x.check(), 0);
    }

    private static void checkWrongAheadOfMore() {
        AfterDesk x = withTraces(2);
        tellRight(x, 3);
        x.tell(14);
        x.tell(0);
        Due.is("27 wrong ahead of more", x.check(), 2);
        x.trace(0, 1, 0, 0);
        tellRight(x, 30);
        Due.is("27 none (either) ahead of more", x.check(), 3);
    }

    private static void checkStateAheadOfAll() {
        AfterDesk x = Desks.QUARRELLING.make();
        Due.is("27 four wait", x.count(3), 4);
        Due.is("27 no good times", x.check(), STATE);
        Due.is("27 they are gone, too", x.count(3), 0);
        Due.is("27 it is counted", x.found(5), 1);
        for (int i = 1; i <= 30; i++) {
            Due.is("27 room for all", x.tell(i), i);
        }
        Due.is("27 more were told, too", x.check(), STATE);
        Due.is("27 they are gone again", x.count(3), 0);
        x.untie(3);
        x.tell(10);
        x.tell(20);
        Due.is("27 good times again", x.check(), 2);
        Due.is("27 nothing else changed", x.count(0) + x.count(1), 8);
    }

    private static void checkStateWithNothingTold() {
        AfterDesk x = Desks.QUARRELLING.make();
        x.check();
        Due.is("27 no good times, nothing told", x.check(), STATE);
        Due.is("27 both are counted", x.found(5), 2);
    }

    private static void countEachWhat() {
        Edge.of("28 another what", Desks.PLAIN, "count 0", 0)
            .letsIn(0, 5).letsIn(1, 3).letsIn(2, 4).letsIn(3, 4).letsIn(4, 4).refuses(-1, 5);
    }

    private static void countOfNothing() {
        Edge.of("28 nothing", Desks.EMPTY, "count 0", 0)
            .letsIn(0, 0).letsIn(1, 0).letsIn(2, 0).letsIn(3, 0).letsIn(4, 0).refuses(-1, 5);
    }

    private static void countOfAFullDesk() {
        Edge.of("28 all", Desks.FULL, "count 0", 0)
            .letsIn(0, 12).letsIn(1, 24).letsIn(2, 10).letsIn(3, 30).letsIn(4, 12).refuses(-1, 5);
    }

    private static void countOfSharedMarks() {
        AfterDesk x = new AfterDesk();
        for (int i = 0; i < 12; i++) {
            x.trace(i % 3, 0, 0, i < 6 ? 15 : 0);
            Due.is("28 marks, not traces", x.count(4), i < 6 ? 1 : 2);
        }
        for (int i = 11; i >= 0; i--) {
            x.drop();
            Due.is("28 marks that are left", x.count(4), i > 6 ? 2 : i > 0 ? 1 : 0);
        }
    }

    private static void foundOfEachFinding() {
        Edge.of("29 another k", Desks.EMPTY, "found 1", 0)
            .letsIn(1, 0).letsIn(2, 0).letsIn(3, 0).letsIn(4, 0).letsIn(5, 0).refuses(0, 6);
        Edge.of("29 another k", Desks.FULL, "found 1", 0).letsIn(1, 0).letsIn(5, 0).refuses(-1, 7);
    }

    private static void foundOfNothing() {
        AfterDesk x = Desks.PLAIN.make();
        for (int k = 1; k <= 5; k++) {
            Due.is("29 none was answered", x.found(k), 0);
        }
    }

    private static void foundCountsItsOwn() {
        AfterDesk x = new AfterDesk();
        int[] others = {0, 6, -1, 7, LEAST, GREATEST, -1000000000, 1000000000};
        for (int i = 0; i < others.length; i++) {
            Due.is("29 another k", x.found(others[i]), BEYOND);
            Due.is("29 it is counted, too", x.found(1), i + 1);
        }
        for (int k = 2; k <= 5; k++) {
            Due.is("29 as no other", x.found(k), 0);
        }
    }

    private static void foundCountsEachActOnce() {
        AfterDesk x = Desks.QUARRELLING.make();
        String[] none = {"offset 3 0 true", "span 3 false", "without 3 0 false", "story 4", "story 2147483647"};
        String[] state = {"time 0 true", "apart 0 1 false", "without 0 2 true", "cost 0", "parts 3", "check"};
        for (int i = 0; i < none.length; i++) {
            Due.is("29 " + none[i], Calls.answer(x, none[i]), NONE);
            Due.is("29 NONE is counted once", x.found(2), i + 1);
        }
        for (int i = 0; i < state.length; i++) {
            Due.is("29 " + state[i], Calls.answer(x, state[i]), STATE);
            Due.is("29 STATE is counted once", x.found(5), i + 1);
        }
        x.as(0, 1);
        x.as(1, 2);
        Due.is("29 KIND is counted once", x.found(3), 2);
        Due.is("29 no FULL", x.found(4), 0);
        Due.is("29 no BEYOND", x.found(1), 0);
    }

    /** Answers such as 0, -1 or 99 tell that something isn't so, but they are no FINDINGS. */
    private static void foundOfAnswersThatAreNone() {
        AfterDesk x = Desks.STORYLESS.make();
        Due.is("29 no stories", x.many(), 0);
        Due.is("29 never known", x.forget(9), 0);
        Due.is("29 no pieces", x.reset(3), 0);
        Due.is("29 a wrong number", x.check(), 2);
        x.drop();
        x.deed(9, 1000, 0, 0, 0);
        Due.is("29 out", x.sure(9), -1);
        for (int k = 1; k <= 5; k++) {
            Due.is("29 no finding", x.found(k), 0);
        }
    }
}
