/** The boundary cases of a new object and of CLOCKS: promises 1 to 4, and what "Terms" says of PIECES. */
public final class ClockEdgesTest {
    private static final long BEYOND = Due.BEYOND;
    private static final long NONE = Due.NONE;
    private static final long FULL = Due.FULL;

    public static void main(String[] args) {
        newHasNoPieces();
        newHasNoTraces();
        newHasNoTies();
        newHasNoDeeds();
        newHasNothingTold();
        newIsEmptyAfterOthersWereFilled();
        pieceOfEachClock();
        pieceFromEachReading();
        pieceOfEachLow();
        pieceOfEachHigh();
        pieceLowNotAboveHigh();
        pieceFromAboveTheLast();
        pieceBehindTheLastReading();
        pieceAtMostFive();
        pieceFullForEachClockByItself();
        pieceBeyondAheadOfFull();
        resetOfEachClock();
        resetOfNoPieces();
        resetMakesRoom();
        offsetOfEachClock();
        offsetOfEachReading();
        offsetWithoutPieces();
        offsetAheadOfAllPieces();
        offsetUpToTheNextPiece();
        offsetOfLeastAndGreatest();
        offsetBeyondAheadOfNone();
        Due.end();
    }

    private static void newHasNoPieces() {
        for (int clock = 0; clock < 4; clock++) {
            AfterDesk x = new AfterDesk();
            Due.is("1 no piece at 0", x.offset(clock, 0, false), NONE);
            Due.is("1 no piece at 1000000", x.offset(clock, 1000000, true), NONE);
            Due.is("1 no pieces go", x.reset(clock), 0);
            Due.is("1 the first piece", x.piece(clock, 0, 0, 0), 1);
        }
    }

    private static void newHasNoTraces() {
        AfterDesk x = new AfterDesk();
        Due.is("1 no traces", x.count(0), 0);
        Due.is("1 no marks", x.count(4), 0);
        Due.is("1 nothing to drop", x.drop(), NONE);
        Due.is("1 no trace 0", x.about(0, 0), BEYOND);
        Due.is("1 no quarrel", x.quarrel(), NONE);
        Due.is("1 the first trace", x.trace(0, 0, 0, 0), 0);
    }

    private static void newHasNoTies() {
        AfterDesk x = new AfterDesk();
        Due.is("1 no ties", x.count(1), 0);
        Due.is("1 nothing to untie", x.untie(0), BEYOND);
        x.trace(0, 0, 0, 0);
        x.trace(0, 0, 0, 0);
        Due.is("1 the first tie", x.tie(0, 1, 0), 1);
    }

    private static void newHasNoDeeds() {
        AfterDesk x = new AfterDesk();
        Due.is("1 no deeds", x.count(2), 0);
        for (int d = 0; d < 10; d++) {
            Due.is("1 deed " + d + " can't be asked for", x.sure(d), BEYOND);
            Due.is("1 deed " + d + " is in no story", x.cost(1 << d), BEYOND);
            Due.is("1 deed " + d + " wasn't known", x.forget(d), 0);
        }
        Due.is("1 the empty story is possible", x.cost(0), 0);
        Due.is("1 the empty story is the least", x.least(), 0);
        Due.is("1 it is the only one", x.many(), 1);
        Due.is("1 its bits", x.story(0), 0);
        Due.is("1 no other", x.story(1), NONE);
        Due.is("1 nothing parts one story", x.parts(0), 0);
        Due.is("1 the least mark is asked", x.ask(), 0);
    }

    private static void newHasNothingTold() {
        AfterDesk x = new AfterDesk();
        for (int k = 1; k <= 5; k++) {
            Due.is("1 no finding " + k, x.found(k), 0);
        }
        Due.is("1 no number waits", x.count(3), 0);
        Due.is("1 nothing is missing", x.check(), 0);
        Due.is("1 the first number", x.tell(0), 1);
    }

    private static void newIsEmptyAfterOthersWereFilled() {
        Desks.FULL.make();
        AfterDesk x = new AfterDesk();
        for (int what = 0; what <= 4; what++) {
            Due.is("1 count(" + what + ") beside a full one", x.count(what), 0);
        }
        Due.is("1 no pieces beside a full one", x.reset(0), 0);
    }

    private static void pieceOfEachClock() {
        Edge.of("2 no such clock", Desks.EMPTY, "piece 0 5 -1 1", 0).letsIn(0, 1).letsIn(3, 1).refuses(-1, 4);
        Edge.of("2 no such clock", Desks.PLAIN, "piece 0 50 -1 1", 0).letsIn(0, 3).letsIn(3, 1).refuses(-1, 4);
    }

    private static void pieceFromEachReading() {
        Edge.of("2 from", Desks.EMPTY, "piece 2 5 -1 1", 1).letsIn(0, 1).letsIn(1000000, 1).refuses(-1, 1000001);
        Edge.of("2 from", Desks.PLAIN, "piece 0 50 -1 1", 1).letsIn(1000000, 3).refuses(-1, 1000001);
    }

    private static void pieceOfEachLow() {
        Edge.of("2 low", Desks.EMPTY, "piece 2 5 0 100000", 2)
            .letsIn(-100000, 1).letsIn(100000, 1).refuses(-100001, 100001);
    }

    private static void pieceOfEachHigh() {
        Edge.of("2 high", Desks.EMPTY, "piece 2 5 -100000 0", 3)
            .letsIn(-100000, 1).letsIn(100000, 1).refuses(-100001, 100001);
    }

    private static void pieceLowNotAboveHigh() {
        Edge.of("2 low not above high", Desks.PLAIN, "piece 0 50 0 7", 2).letsIn(7, 3).refuses(8, 9);
        Edge.of("2 high not below low", Desks.PLAIN, "piece 0 50 7 9", 3).letsIn(7, 3).refuses(5, 6);
        AfterDesk x = new AfterDesk();
        Due.is("2 99999 is below 100000", x.piece(0, 1, 100000, 99999), BEYOND);
        Due.is("2 -99999 is above -100000", x.piece(0, 1, -99999, -100000), BEYOND);
        Due.is("2 the widest", x.piece(0, 1, -100000, 100000), 1);
        Due.is("2 the widest the other way", x.piece(0, 2, 100000, -100000), BEYOND);
    }

    private static void pieceFromAboveTheLast() {
        Edge.of("2 above the last one", Desks.PLAIN, "piece 0 50 0 0", 1).letsIn(21, 3).refuses(19, 20);
        Edge.of("2 above the last one, not the first", Desks.PLAIN, "piece 0 50 0 0", 1).refuses(10, 11);
        Edge.of("2 the last is at 0", Desks.PLAIN, "piece 1 50 0 0", 1).letsIn(1, 2).refuses(-1, 0);
        Edge.of("2 the last of this clock alone", Desks.PLAIN, "piece 2 50 0 0", 1).letsIn(0, 1).letsIn(20, 1);
    }

    private static void pieceBehindTheLastReading() {
        AfterDesk x = new AfterDesk();
        x.piece(0, 999999, 0, 0);
        Due.is("2 the last reading", x.piece(0, 1000000, 0, 0), 2);
        Due.is("2 the last reading again", x.piece(0, 1000000, 0, 0), BEYOND);
        Due.is("2 one behind the last reading", x.piece(0, 1000001, 0, 0), BEYOND);
    }

    private static void pieceAtMostFive() {
        AfterDesk x = new AfterDesk();
        for (int i = 1; i <= 5; i++) {
            Due.is("2 piece " + i, x.piece(3, i, 0, 0), i);
        }
        Due.is("2 the sixth", x.piece(3, 6, 0, 0), FULL);
        Due.is("2 the sixth again", x.piece(3, 1000000, 0, 0), FULL);
        for (int clock = 0; clock < 4; clock++) {
            Refusal.is("2 the sixth", Desks.FULL, "piece " + clock + " 51 0 0", FULL);
        }
    }

    private static void pieceFullForEachClockByItself() {
        AfterDesk x = new AfterDesk();
        for (int clock = 0; clock < 4; clock++) {
            for (int i = 1; i <= 5; i++) {
                Due.is("2 piece " + i + " of clock " + clock, x.piece(clock, 10 * i, 0, 0), i);
            }
        }
        Due.is("2 all are full", x.piece(0, 60, 0, 0), FULL);
    }

    private static void pieceBeyondAheadOfFull() {
        Refusal.is("2 full, from is that of the last", Desks.FULL, "piece 0 50 0 0", BEYOND);
        Refusal.is("2 full, from is above the last", Desks.FULL, "piece 0 51 0 0", FULL);
        Refusal.is("2 full, from too great", Desks.FULL, "piece 0 1000001 0 0", BEYOND);
        Refusal.is("2 full, from too small", Desks.FULL, "piece 0 -1 0 0", BEYOND);
        Refusal.is("2 full, low too small", Desks.FULL, "piece 0 60 -100001 0", BEYOND);
        Refusal.is("2 full, high too great", Desks.FULL, "piece 0 60 0 100001", BEYOND);
        Refusal.is("2 full, low above high", Desks.FULL, "piece 0 60 1 0", BEYOND);
        Refusal.is("2 full, no such clock", Desks.FULL, "piece 4 60 0 0", BEYOND);
    }

    private static void resetOfEachClock() {
        Edge.of("3 no such clock", Desks.FULL, "reset 0", 0).letsIn(0, 5).letsIn(3, 5).refuses(-1, 4);
        Edge.of("3 no such clock", Desks.EMPTY, "reset 0", 0).letsIn(0, 0).letsIn(3, 0).refuses(-1, 4);
    }

    private static void resetOfNoPieces() {
        AfterDesk x = Desks.PLAIN.make();
        Due.is("3 two go", x.reset(0), 2);
        Due.is("3 none are left", x.reset(0), 0);
        Due.is("3 those of another clock stay", x.reset(1), 1);
        Due.is("3 a clock that had none", x.reset(2), 0);
        Due.is("3 none is no finding", x.found(1) + x.found(2), 0);
    }

    private static void resetMakesRoom() {
        AfterDesk x = Desks.FULL.make();
        x.reset(2);
        Due.is("3 no piece any more", x.offset(2, 1000000, true), NONE);
        Due.is("3 another clock stays full", x.piece(1, 60, 0, 0), FULL);
        for (int i = 1; i <= 5; i++) {
            Due.is("3 from 0 on again", x.piece(2, i - 1, i, i), i);
        }
        Due.is("3 full again", x.piece(2, 60, 0, 0), FULL);
        Due.is("3 the new ones", x.offset(2, 4, false), 5);
    }

    private static void offsetOfEachClock() {
        Edge.of("4 no such clock", Desks.FULL, "offset 0 50 false", 0).letsIn(0, -5).letsIn(3, -2).refuses(-1, 4);
        Edge.of("4 no such clock", Desks.EMPTY, "offset 0 50 true", 0).letsIn(0, NONE).letsIn(3, NONE).refuses(-1, 4);
    }

    private static void offsetOfEachReading() {
        Edge.of("4 reading", Desks.PLAIN, "offset 1 5 true", 1).letsIn(0, 3).letsIn(1000000, 3).refuses(-1, 1000001);
    }

    private static void offsetWithoutPieces() {
        for (int reading : new int[] {0, 1, 999999, 1000000}) {
            Refusal.is("4 a clock without pieces", Desks.PLAIN, "offset 2 " + reading + " false", NONE);
            Refusal.is("4 a clock without pieces", Desks.EMPTY, "offset 0 " + reading + " true", NONE);
        }
    }

    private static void offsetAheadOfAllPieces() {
        Refusal.is("4 at 0", Desks.PLAIN, "offset 0 0 false", NONE);
        Refusal.is("4 one ahead of the first", Desks.PLAIN, "offset 0 9 true", NONE);
        Edge.of("4 at the first", Desks.PLAIN, "offset 0 0 false", 1).letsIn(10, -5);
        AfterDesk x = new AfterDesk();
        x.piece(0, 1000000, 6, 8);
        Due.is("4 ahead of a piece at the last reading", x.offset(0, 999999, true), NONE);
        Due.is("4 at a piece at the last reading", x.offset(0, 1000000, true), 8);
        x.piece(1, 0, 4, 5);
        Due.is("4 a piece from 0 on has none ahead", x.offset(1, 0, false), 4);
    }

    private static void offsetUpToTheNextPiece() {
        AfterDesk x = new AfterDesk();
        x.piece(0, 10, 1, 2);
        x.piece(0, 20, 3, 4);
        x.piece(0, 21, 5, 6);
        x.piece(0, 1000000, 7, 8);
        Due.is("4 the last reading of the first", x.offset(0, 19, false), 1);
        Due.is("4 the only reading of the second", x.offset(0, 20, false), 3);
        Due.is("4 the first reading of the third", x.offset(0, 21, true), 6);
        Due.is("4 the last reading of the third", x.offset(0, 999999, true), 6);
        Due.is("4 the last reading of all", x.offset(0, 1000000, true), 8);
    }

    private static void offsetOfLeastAndGreatest() {
        AfterDesk x = new AfterDesk();
        x.piece(0, 0, -100000, 100000);
        Due.is("4 the least low", x.offset(0, 0, false), -100000);
        Due.is("4 the greatest high", x.offset(0, 0, true), 100000);
        x.piece(0, 1, 100000, 100000);
        Due.is("4 the greatest low", x.offset(0, 1, false), 100000);
        x.piece(0, 2, -100000, -100000);
        Due.is("4 the least high", x.offset(0, 2, true), -100000);
    }

    private static void offsetBeyondAheadOfNone() {
        Refusal.is("4 no piece, reading too small", Desks.EMPTY, "offset 0 -1 false", BEYOND);
        Refusal.is("4 no piece, reading too great", Desks.EMPTY, "offset 0 1000001 true", BEYOND);
        Refusal.is("4 ahead of all, reading too small", Desks.PLAIN, "offset 0 -1 true", BEYOND);
        Refusal.is("4 no such clock, so no piece", Desks.EMPTY, "offset 4 0 false", BEYOND);
    }
}
