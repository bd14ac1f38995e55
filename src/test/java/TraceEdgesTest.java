/** The boundary cases of TRACES and TIES: promises 5 to 11, and what "Terms" says of them and of SPANS. */
public final class TraceEdgesTest {
    private static final long BEYOND = Due.BEYOND;
    private static final long NONE = Due.NONE;
    private static final long KIND = Due.KIND;
    private static final long FULL = Due.FULL;

    public static void main(String[] args) {
        traceOfEachKind();
        traceOfEachClock();
        traceOfEachReading();
        traceOfEachMark();
        traceAtMostTwelve();
        traceBeyondAheadOfFull();
        dropOfNone();
        dropOfTheOnlyOne();
        dropOfAFullDesk();
        dropTakesItsTies();
        dropLeavesOtherTies();
        dropTakesAllTies();
        dropOfAMark();
        aboutOfEachTrace();
        aboutEachWhat();
        aboutLeastAndGreatest();
        asOfEachTrace();
        asEachKind();
        asWhatItIs();
        asBeyondAheadOfKind();
        spanOfEachTrace();
        spanOfLeastAndGreatest();
        spanOfACopiedOne();
        spanAheadOfAllPieces();
        spanWithoutPieces();
        tieOfEachTrace();
        tieOfTheSame();
        tieOfEachDistance();
        tieAtMostTwentyFour();
        tieBeyondAheadOfFull();
        tieTwice();
        untieEach();
        untieOfNone();
        untieMovesUp();
        untieMakesRoom();
        Due.end();
    }

    private static void traceOfEachKind() {
        Edge.of("5 no such kind", Desks.EMPTY, "trace 0 1 5 6", 0).letsIn(0, 0).letsIn(2, 0).refuses(-1, 3);
    }

    private static void traceOfEachClock() {
        Edge.of("5 no such clock", Desks.PLAIN, "trace 1 0 5 6", 1).letsIn(0, 5).letsIn(3, 5).refuses(-1, 4);
    }

    private static void traceOfEachReading() {
        Edge.of("5 reading", Desks.PLAIN, "trace 2 0 5 6", 2).letsIn(0, 5).letsIn(1000000, 5).refuses(-1, 1000001);
    }

    private static void traceOfEachMark() {
        Edge.of("5 no such mark", Desks.EMPTY, "trace 0 3 5 6", 3).letsIn(0, 0).letsIn(15, 0).refuses(-1, 16);
    }

    private static void traceAtMostTwelve() {
        AfterDesk x = new AfterDesk();
        for (int i = 0; i < 12; i++) {
            Due.is("5 trace " + i, x.trace(0, 0, 0, 0), i);
        }
        Due.is("5 the thirteenth", x.trace(0, 0, 0, 0), FULL);
        Refusal.is("5 the thirteenth", Desks.FULL, "trace 2 3 1000000 15", FULL);
        x.drop();
        Due.is("5 room for one again", x.trace(0, 0, 0, 0), 11);
        Due.is("5 full again", x.trace(0, 0, 0, 0), FULL);
    }

    private static void traceBeyondAheadOfFull() {
        Refusal.is("5 full, no such kind", Desks.FULL, "trace 3 0 0 0", BEYOND);
        Refusal.is("5 full, no such clock", Desks.FULL, "trace 0 4 0 0", BEYOND);
        Refusal.is("5 full, reading too great", Desks.FULL, "trace 0 0 1000001 0", BEYOND);
        Refusal.is("5 full, no such mark", Desks.FULL, "trace 0 0 0 16", BEYOND);
    }

    private static void dropOfNone() {
        Refusal.is("6 there is none", Desks.EMPTY, "drop", NONE);
    }

    private static void dropOfTheOnlyOne() {
        AfterDesk x = new AfterDesk();
        x.trace(0, 0, 0, 0);
        Due.is("6 none is left", x.drop(), 0);
        Due.is("6 there is none any more", x.drop(), NONE);
        Due.is("6 traces", x.count(0), 0);
        Due.is("6 the number 0 is free", x.trace(0, 0, 0, 0), 0);
    }

    private static void dropOfAFullDesk() {
        AfterDesk x = Desks.FULL.make();
        for (int left = 11; left >= 0; left--) {
            Due.is("6 left", x.drop(), left);
            Due.is("6 the last one went", x.about(left, 0), BEYOND);
        }
        Due.is("6 none is left", x.drop(), NONE);
        Due.is("6 no ties are left", x.count(1), 0);
        Due.is("6 no marks are left", x.count(4), 0);
    }

    private static void dropTakesItsTies() {
        AfterDesk x = new AfterDesk();
        for (int i = 0; i < 3; i++) {
            x.trace(0, 0, 0, 0);
        }
        x.tie(0, 2, 1);
        x.tie(0, 1, 5);
        x.tie(2, 1, 2);
        x.tie(0, 1, 6);
        x.tie(1, 2, 3);
        Due.is("6 the last goes", x.drop(), 2);
        Due.is("6 ties of both ends went", x.count(1), 2);
        Due.is("6 two are left", x.untie(2), BEYOND);
        Due.is("6 the greater holds", x.apart(0, 1, false), 6);
        Due.is("6 the order stays", x.untie(1), 1);
        Due.is("6 the lesser holds", x.apart(0, 1, false), 5);
        x.trace(0, 0, 0, 0);
        Due.is("6 a new one isn't tied", x.apart(0, 2, false), NONE);
    }

    private static void dropLeavesOtherTies() {
        AfterDesk x = new AfterDesk();
        for (int i = 0; i < 4; i++) {
            x.trace(0, 0, 0, 0);
        }
        x.tie(0, 1, 5);
        x.tie(3, 0, 1);
        x.tie(1, 2, 7);
        x.tie(2, 3, 1);
        x.tie(2, 0, -20);
        Due.is("6 the last goes", x.drop(), 3);
        Due.is("6 three ties stay", x.count(1), 3);
        Due.is("6 the first stays", x.apart(0, 1, false), 5);
        Due.is("6 one behind stays", x.apart(1, 2, false), 7);
        Due.is("6 the last stays", x.apart(0, 2, true), 20);
        Due.is("6 nothing is left of it", x.untie(3), BEYOND);
        Due.is("6 the first is the first", x.untie(0), 2);
        Due.is("6 it is gone", x.apart(0, 1, false), NONE);
    }

    private static void dropTakesAllTies() {
        AfterDesk x = new AfterDesk();
        x.trace(0, 0, 0, 0);
        x.trace(0, 0, 0, 0);
        for (int i = 0; i < 24; i++) {
            x.tie(i % 2, 1 - i % 2, -i);
        }
        Due.is("6 the last goes", x.drop(), 1);
        Due.is("6 all ties went", x.count(1), 0);
        x.trace(0, 0, 0, 0);
        Due.is("6 room for ties again", x.tie(0, 1, 0), 1);
    }

    private static void dropOfAMark() {
        AfterDesk x = new AfterDesk();
        x.trace(0, 0, 0, 15);
        x.trace(2, 0, 0, 0);
        x.trace(0, 0, 0, 15);
        x.drop();
        Due.is("6 another one has its mark", x.count(4), 2);
        x.drop();
        Due.is("6 none has its mark", x.count(4), 1);
        Due.is("6 it isn't there", x.parts(0), NONE);
        Due.is("6 no story explains the other", x.many(), 0);
        x.drop();
        Due.is("6 the empty story does by now", x.many(), 1);
    }

    private static void aboutOfEachTrace() {
        Edge.of("7 no such trace", Desks.PLAIN, "about 0 3", 0).letsIn(0, 3).letsIn(4, 6).refuses(-1, 5);
        Edge.of("7 no such trace", Desks.FULL, "about 0 3", 0).letsIn(0, 0).letsIn(11, 11).refuses(-1, 12);
        for (int what = 0; what < 4; what++) {
            Edge.of("7 no trace", Desks.EMPTY, "about 0 " + what, 0).refuses(-1, 0);
        }
    }

    private static void aboutEachWhat() {
        Edge.of("7 another what", Desks.PLAIN, "about 2 0", 1)
            .letsIn(0, 2).letsIn(1, 1).letsIn(2, 30).letsIn(3, 5).refuses(-1, 4);
        Refusal.is("7 neither", Desks.PLAIN, "about 5 4", BEYOND);
    }

    private static void aboutLeastAndGreatest() {
        AfterDesk x = new AfterDesk();
        x.trace(0, 0, 0, 0);
        x.trace(2, 3, 1000000, 15);
        long[] greatest = {2, 3, 1000000, 15};
        for (int what = 0; what < 4; what++) {
            Due.is("7 the least " + what, x.about(0, what), 0);
            Due.is("7 the greatest " + what, x.about(1, what), greatest[what]);
        }
    }

    private static void asOfEachTrace() {
        Edge.of("8 no such trace", Desks.PLAIN, "as 0 0", 0).letsIn(0, 3).letsIn(4, 6).refuses(-1, 5);
        Edge.of("8 no trace", Desks.EMPTY, "as 0 0", 0).refuses(-1, 0);
        Edge.of("8 no such trace", Desks.FULL, "as 0 0", 0).letsIn(11, 11).refuses(-1, 12);
    }

    private static void asEachKind() {
        Edge.of("8 no such kind", Desks.PLAIN, "as 2 0", 1).letsIn(0, 5).letsIn(2, 5).refuses(-1, 3);
        Edge.of("8 no such kind", Desks.PLAIN, "as 0 0", 1).letsIn(0, 3).refuses(-1, 3);
    }

    private static void asWhatItIs() {
        AfterDesk x = new AfterDesk();
        for (int kind = 0; kind < 3; kind++) {
            x.trace(kind, 0, 0, 15 - kind);
        }
        long[][] due = {{15, KIND, KIND}, {14, 14, KIND}, {13, KIND, 13}};
        for (int trace = 0; trace < 3; trace++) {
            for (int kind = 0; kind < 3; kind++) {
                Due.is("8 one of kind " + trace + " as one of kind " + kind, x.as(trace, kind), due[trace][kind]);
            }
        }
        Refusal.is("8 a trace isn't copied", Desks.PLAIN, "as 0 1", KIND);
        Refusal.is("8 a trace isn't forged", Desks.PLAIN, "as 0 2", KIND);
        Refusal.is("8 a copied one isn't forged", Desks.PLAIN, "as 1 2", KIND);
        Refusal.is("8 a forged one isn't copied", Desks.PLAIN, "as 2 1", KIND);
    }

    private static void asBeyondAheadOfKind() {
        Refusal.is("8 no such trace, so not of that kind", Desks.PLAIN, "as 5 1", BEYOND);
        Refusal.is("8 no such kind, so not of it", Desks.PLAIN, "as 1 3", BEYOND);
        Refusal.is("8 no such kind, so not under it", Desks.PLAIN, "as 1 -1", BEYOND);
    }

    private static void spanOfEachTrace() {
        Edge.of("9 no such trace", Desks.PLAIN, "span 0 true", 0).letsIn(0, 20).letsIn(4, NONE).refuses(-1, 5);
        Edge.of("9 no trace", Desks.EMPTY, "span 0 false", 0).refuses(-1, 0);
        Edge.of("9 no such trace", Desks.FULL, "span 0 false", 0).letsIn(11, 52).refuses(-1, 12);
    }

    private static void spanOfLeastAndGreatest() {
        AfterDesk x = new AfterDesk();
        x.piece(0, 0, -100000, 100000);
        x.trace(0, 0, 0, 0);
        x.trace(2, 0, 1000000, 0);
        Due.is("9 the least lower end", x.span(0, false), -100000);
        Due.is("9 the least reading, upper", x.span(0, true), 100000);
        Due.is("9 the greatest reading, lower", x.span(1, false), 900000);
        Due.is("9 the greatest upper end", x.span(1, true), 1100000);
    }

    private static void spanOfACopiedOne() {
        AfterDesk x = new AfterDesk();
        x.piece(0, 0, -100000, 100000);
        x.piece(0, 1000000, 100000, 100000);
        x.trace(1, 0, 0, 0);
        x.trace(1, 0, 1000000, 0);
        Due.is("9 copied, the least lower end", x.span(0, false), -100000);
        Due.is("9 copied, the greatest lower end", x.span(1, false), 1100000);
        Due.is("9 copied, no end above", x.span(0, true), NONE);
        Due.is("9 copied, low is high", x.span(1, true), NONE);
        Refusal.is("9 copied, no end above", Desks.PLAIN, "span 1 true", NONE);
    }

    private static void spanAheadOfAllPieces() {
        AfterDesk x = new AfterDesk();
        x.piece(0, 10, 1, 2);
        x.piece(0, 20, 5, 6);
        for (int kind = 0; kind < 3; kind++) {
            x.trace(kind, 0, 9, 0);
            x.trace(kind, 0, 10, 0);
            x.trace(kind, 0, 19, 0);
            x.trace(kind, 0, 20, 0);
        }
        for (int kind = 0; kind < 3; kind++) {
            Due.is("9 one ahead of all, lower", x.span(4 * kind, false), NONE);
            Due.is("9 one ahead of all, upper", x.span(4 * kind, true), NONE);
            Due.is("9 at the first, lower", x.span(4 * kind + 1, false), 11);
            Due.is("9 the last of the first, lower", x.span(4 * kind + 2, false), 20);
            Due.is("9 the first of the next, lower", x.span(4 * kind + 3, false), 25);
            Due.is("9 the last of the first, upper", x.span(4 * kind + 2, true), kind == 1 ? NONE : 21);
            Due.is("9 the first of the next, upper", x.span(4 * kind + 3, true), kind == 1 ? NONE : 26);
        }
        Refusal.is("9 ahead of all, lower", Desks.PLAIN, "span 4 false", NONE);
        Refusal.is("9 ahead of all, upper", Desks.PLAIN, "span 4 true", NONE);
    }

    private static void spanWithoutPieces() {
        Refusal.is("9 a clock without pieces, lower", Desks.PLAIN, "span 3 false", NONE);
        Refusal.is("9 a clock without pieces, upper", Desks.PLAIN, "span 3 true", NONE);
        AfterDesk x = Desks.PLAIN.make();
        x.reset(0);
        Due.is("9 the pieces are gone, lower", x.span(0, false), NONE);
        Due.is("9 the pieces are gone, upper", x.span(0, true), NONE);
        Due.is("9 a copied one, too", x.span(1, false), NONE);
        Due.is("9 by another clock", x.span(2, false), 27);
    }

    private static void tieOfEachTrace() {
        Edge.of("10 no such a", Desks.PLAIN, "tie 0 1 0", 0).letsIn(0, 4).letsIn(4, 4).refuses(-1, 5);
        Edge.of("10 no such b", Desks.PLAIN, "tie 1 0 0", 1).letsIn(0, 4).letsIn(4, 4).refuses(-1, 5);
        Edge.of("10 no trace", Desks.EMPTY, "tie 0 1 0", 0).refuses(-1, 0);
        Refusal.is("10 neither", Desks.PLAIN, "tie 5 6 0", BEYOND);
        AfterDesk x = new AfterDesk();
        x.trace(0, 0, 0, 0);
        Due.is("10 one alone", x.tie(0, 1, 0), BEYOND);
        Due.is("10 one alone, the other way", x.tie(1, 0, 0), BEYOND);
    }

    private static void tieOfTheSame() {
        for (int trace = 0; trace < 5; trace++) {
            Refusal.is("10 the same", Desks.PLAIN, "tie " + trace + " " + trace + " 0", BEYOND);
        }
        Refusal.is("10 the same, and d would hold", Desks.PLAIN, "tie 0 0 -1", BEYOND);
    }

    private static void tieOfEachDistance() {
        Edge.of("10 d", Desks.PLAIN, "tie 3 4 0", 2).letsIn(-100000, 4).letsIn(100000, 4).refuses(-100001, 100001);
        AfterDesk x = Desks.PLAIN.make();
        x.tie(3, 4, -100000);
        Due.is("10 the least d", x.apart(3, 4, false), -100000);
        x.tie(3, 4, 100000);
        Due.is("10 the greatest d", x.apart(3, 4, false), 100000);
    }

    private static void tieAtMostTwentyFour() {
        AfterDesk x = new AfterDesk();
        x.trace(0, 0, 0, 0);
        x.trace(0, 0, 0, 0);
        for (int i = 1; i <= 24; i++) {
            Due.is("10 tie " + i, x.tie(0, 1, i), i);
        }
        Due.is("10 the twenty-fifth", x.tie(0, 1, 25), FULL);
        Due.is("10 the last let in holds", x.apart(0, 1, false), 24);
        Refusal.is("10 the twenty-fifth", Desks.FULL, "tie 0 11 -100000", FULL);
    }

    private static void tieBeyondAheadOfFull() {
        Refusal.is("10 full, no such a", Desks.FULL, "tie 12 0 0", BEYOND);
        Refusal.is("10 full, no such b", Desks.FULL, "tie 0 12 0", BEYOND);
        Refusal.is("10 full, the same", Desks.FULL, "tie 3 3 0", BEYOND);
        Refusal.is("10 full, d too great", Desks.FULL, "tie 0 1 100001", BEYOND);
        Refusal.is("10 full, d too small", Desks.FULL, "tie 0 1 -100001", BEYOND);
    }

    private static void tieTwice() {
        AfterDesk x = Desks.PLAIN.make();
        Due.is("10 the same tie again", x.tie(0, 1, 2), 4);
        Due.is("10 and the other way", x.tie(1, 0, -100000), 5);
    }

    private static void untieEach() {
        Edge.of("11 none such", Desks.PLAIN, "untie 0", 0).letsIn(0, 2).letsIn(2, 2).refuses(-1, 3);
        Edge.of("11 none such", Desks.FULL, "untie 0", 0).letsIn(0, 23).letsIn(23, 23).refuses(-1, 24);
    }

    private static void untieOfNone() {
        Edge.of("11 there is none", Desks.EMPTY, "untie 0", 0).refuses(-1, 0);
        AfterDesk x = Desks.PLAIN.make();
        for (int left = 2; left >= 0; left--) {
            Due.is("11 left", x.untie(0), left);
        }
        Due.is("11 none is left", x.untie(0), BEYOND);
    }

    private static void untieMovesUp() {
        AfterDesk x = new AfterDesk();
        x.trace(0, 0, 0, 0);
        x.trace(0, 0, 0, 0);
        int[] distances = {9, 2, 8, 4};
        for (int d : distances) {
            x.tie(0, 1, d);
        }
        Due.is("11 the first goes", x.untie(0), 3);
        Due.is("11 8 is the greatest", x.apart(0, 1, false), 8);
        Due.is("11 it has moved up to 1", x.untie(1), 2);
        Due.is("11 4 is the greatest", x.apart(0, 1, false), 4);
        Due.is("11 2 is gone", x.untie(2), BEYOND);
        Due.is("11 the last goes", x.untie(1), 1);
        Due.is("11 2 is left", x.apart(0, 1, false), 2);
    }

    private static void untieMakesRoom() {
        AfterDesk x = Desks.FULL.make();
        Due.is("11 full", x.tie(0, 11, -100000), FULL);
        Due.is("11 one goes", x.untie(23), 23);
        Due.is("11 one comes", x.tie(0, 11, -100000), 24);
        Due.is("11 full again", x.tie(0, 11, -100000), FULL);
    }
}
