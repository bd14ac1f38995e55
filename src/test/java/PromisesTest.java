/** For each promise of the document: ordinary inputs, the edges that it names, and wrong inputs. */
public final class PromisesTest {
    private static final long BEYOND = Due.BEYOND;
    private static final long NONE = Due.NONE;
    private static final long KIND = Due.KIND;
    private static final long FULL = Due.FULL;
    private static final long STATE = Due.STATE;
    private static final int[] WILD = {Integer.MIN_VALUE, -1000001, -100001, -1, Integer.MAX_VALUE};

    public static void main(String[] args) {
        promise1NewObject();
        promise2Piece();
        promise3Reset();
        promise4Offset();
        promise5Trace();
        promise6Drop();
        promise7About();
        promise8As();
        promise9Span();
        promise10Tie();
        promise11Untie();
        promise12Time();
        promise13Apart();
        promise14Quarrel();
        promise14QuarrelOfMany();
        promise15Without();
        promise16Deed();
        promise17Forget();
        promise18Prices();
        promise19Cost();
        promise19CostOfMissesAndForgeries();
        promise20Least();
        promise21Many();
        promise22Story();
        promise23Sure();
        promise24Parts();
        promise25Ask();
        promise26Tell();
        promise27Check();
        promise27CheckWhereThereIsNone();
        promise28Count();
        promise29Found();
        findingsChangeNothing();
        Due.end();
    }

    private static void promise1NewObject() {
        AfterDesk x = new AfterDesk();
        for (int what = 0; what <= 4; what++) {
            Due.is("1 count(" + what + ")", x.count(what), 0);
        }
        for (int k = 1; k <= 5; k++) {
            Due.is("1 found(" + k + ")", x.found(k), 0);
        }
        for (int clock = 0; clock < 4; clock++) {
            Due.is("1 no pieces", x.reset(clock), 0);
        }
        Due.is("1 no deeds", x.cost(1), BEYOND);
        Due.is("1 the empty story", x.cost(0), 0);
        Due.is("1 no quarrel", x.quarrel(), NONE);
        AfterDesk y = new AfterDesk();
        y.trace(0, 0, 0, 0);
        Due.is("1 objects are apart", x.count(0), 0);
    }

    private static void promise2Piece() {
        AfterDesk x = new AfterDesk();
        Due.is("2 first", x.piece(0, 0, -100000, 100000), 1);
        Due.is("2 not above the last", x.piece(0, 0, 0, 0), BEYOND);
        Due.is("2 one above the last", x.piece(0, 1, 0, 0), 2);
        Due.is("2 low above high", x.piece(0, 2, 1, 0), BEYOND);
        Due.is("2 low too low", x.piece(0, 2, -100001, 0), BEYOND);
        Due.is("2 high too high", x.piece(0, 2, 0, 100001), BEYOND);
        Due.is("2 low and high too high", x.piece(0, 2, 100001, 100001), BEYOND);
        Due.is("2 low and high too low", x.piece(0, 2, -100001, -100001), BEYOND);
        Due.is("2 from below 0", x.piece(1, -1, 0, 0), BEYOND);
        Due.is("2 from too far", x.piece(1, 1000001, 0, 0), BEYOND);
        Due.is("2 last from", x.piece(1, 1000000, 100000, 100000), 1);
        Due.is("2 clock 4", x.piece(4, 0, 0, 0), BEYOND);
        Due.is("2 clock -1", x.piece(-1, 0, 0, 0), BEYOND);
        Due.is("2 third", x.piece(0, 10, -100000, -100000), 3);
        Due.is("2 fourth", x.piece(0, 20, 0, 0), 4);
        Due.is("2 fifth", x.piece(0, 30, 0, 0), 5);
        Due.is("2 sixth", x.piece(0, 40, 0, 0), FULL);
        Due.is("2 BEYOND ahead of FULL", x.piece(0, 30, 0, 0), BEYOND);
        Due.is("2 other clocks aren't full", x.piece(3, 30, 0, 0), 1);
    }

    private static void promise3Reset() {
        AfterDesk x = new AfterDesk();
        x.piece(2, 5, 0, 0);
        x.piece(2, 6, 0, 0);
        x.piece(1, 6, 7, 7);
        Due.is("3 two", x.reset(2), 2);
        Due.is("3 none", x.reset(2), 0);
        Due.is("3 gone", x.offset(2, 6, false), NONE);
        Due.is("3 others stay", x.offset(1, 6, false), 7);
        Due.is("3 anew from below", x.piece(2, 0, 0, 0), 1);
        Due.is("3 clock 4", x.reset(4), BEYOND);
        for (int wild : WILD) {
            Due.is("3 clock " + wild, x.reset(wild), BEYOND);
        }
    }

    private static void promise4Offset() {
        AfterDesk x = new AfterDesk();
        x.piece(3, 10, -3, 4);
        x.piece(3, 20, 8, 9);
        Due.is("4 ahead of all", x.offset(3, 9, false), NONE);
        Due.is("4 at from", x.offset(3, 10, false), -3);
        Due.is("4 high", x.offset(3, 10, true), 4);
        Due.is("4 last of the first", x.offset(3, 19, true), 4);
        Due.is("4 at the next", x.offset(3, 20, false), 8);
        Due.is("4 last reading", x.offset(3, 1000000, true), 9);
        Due.is("4 reading too far", x.offset(3, 1000001, true), BEYOND);
        Due.is("4 reading -1", x.offset(3, -1, true), BEYOND);
        Due.is("4 clock 4", x.offset(4, 10, true), BEYOND);
        Due.is("4 clock -1", x.offset(-1, 10, true), BEYOND);
        Due.is("4 clock without pieces", x.offset(0, 10, true), NONE);
    }

    private static void promise5Trace() {
        AfterDesk x = new AfterDesk();
        Due.is("5 kind 3", x.trace(3, 0, 0, 0), BEYOND);
        Due.is("5 kind -1", x.trace(-1, 0, 0, 0), BEYOND);
        Due.is("5 clock 4", x.trace(0, 4, 0, 0), BEYOND);
        Due.is("5 clock -1", x.trace(0, -1, 0, 0), BEYOND);
        Due.is("5 reading -1", x.trace(0, 0, -1, 0), BEYOND);
        Due.is("5 reading too far", x.trace(0, 0, 1000001, 0), BEYOND);
        Due.is("5 mark 16", x.trace(0, 0, 0, 16), BEYOND);
        Due.is("5 mark -1", x.trace(0, 0, 0, -1), BEYOND);
        for (int i = 0; i < 12; i++) {
            Due.is("5 trace " + i, x.trace(i % 3, i % 4, i % 2 * 1000000, i), i);
        }
        Due.is("5 thirteenth", x.trace(0, 0, 0, 0), FULL);
        Due.is("5 BEYOND ahead of FULL", x.trace(0, 0, 0, 16), BEYOND);
        Due.is("5 count", x.count(0), 12);
    }

    private static void promise6Drop() {
        AfterDesk x = new AfterDesk();
        Due.is("6 none", x.drop(), NONE);
        for (int i = 0; i < 4; i++) {
            x.trace(0, 0, i, i);
        }
        x.tie(0, 3, 1);
        x.tie(0, 1, 2);
        x.tie(3, 1, 3);
        x.tie(1, 2, 4);
        Due.is("6 left", x.drop(), 3);
        Due.is("6 ties left", x.count(1), 2);
        Due.is("6 first tie stays", x.apart(0, 1, false), 2);
        Due.is("6 second tie stays", x.apart(1, 2, false), 4);
        Due.is("6 gone", x.about(3, 0), BEYOND);
        Due.is("6 mark isn't there", x.count(4), 3);
        Due.is("6 a new one is free of old ties", x.trace(0, 0, 3, 3), 3);
        Due.is("6 no tie came back", x.count(1), 2);
        Due.is("6 left", x.drop(), 3);
        Due.is("6 left", x.drop(), 2);
        Due.is("6 left", x.drop(), 1);
        Due.is("6 left", x.drop(), 0);
        Due.is("6 none", x.drop(), NONE);
        Due.is("6 no ties", x.count(1), 0);
    }

    private static void promise7About() {
        AfterDesk x = new AfterDesk();
        Due.is("7 no trace", x.about(0, 0), BEYOND);
        x.trace(2, 3, 1000000, 15);
        x.trace(1, 0, 7, 9);
        Due.is("7 kind", x.about(0, 0), 2);
        Due.is("7 clock", x.about(0, 1), 3);
        Due.is("7 reading", x.about(0, 2), 1000000);
        Due.is("7 mark", x.about(0, 3), 15);
        Due.is("7 second", x.about(1, 3), 9);
        Due.is("7 what 4", x.about(0, 4), BEYOND);
        Due.is("7 what -1", x.about(0, -1), BEYOND);
        Due.is("7 trace 2", x.about(2, 0), BEYOND);
        Due.is("7 trace -1", x.about(-1, 0), BEYOND);
    }

    private static void promise8As() {
        AfterDesk x = new AfterDesk();
        Due.is("8 no trace", x.as(0, 0), BEYOND);
        for (int kind = 0; kind < 3; kind++) {
            x.trace(kind, 0, 0, 10 + kind);
        }
        for (int trace = 0; trace < 3; trace++) {
            for (int kind = 0; kind < 3; kind++) {
                long due = kind == 0 || kind == trace ? 10 + trace : KIND;
                Due.is("8 as(" + trace + ", " + kind + ")", x.as(trace, kind), due);
            }
        }
        Due.is("8 kind 3", x.as(0, 3), BEYOND);
        Due.is("8 kind -1", x.as(0, -1), BEYOND);
        Due.is("8 trace 3", x.as(3, 0), BEYOND);
        Due.is("8 trace -1", x.as(-1, 0), BEYOND);
    }

    private static void promise9Span() {
        AfterDesk x = new AfterDesk();
        Due.is("9 no trace", x.span(0, true), BEYOND);
        x.piece(0, 10, -100000, 100000);
        x.piece(0, 20, 3, 5);
        x.trace(0, 0, 9, 0);
        x.trace(0, 0, 19, 0);
        x.trace(1, 0, 20, 0);
        x.trace(2, 0, 1000000, 0);
        x.trace(0, 1, 20, 0);
        Due.is("9 ahead of all, lower", x.span(0, false), NONE);
        Due.is("9 ahead of all, upper", x.span(0, true), NONE);
        Due.is("9 first piece, lower", x.span(1, false), -99981);
        Due.is("9 first piece, upper", x.span(1, true), 100019);
        Due.is("9 copied, lower", x.span(2, false), 23);
        Due.is("9 copied, upper", x.span(2, true), NONE);
        Due.is("9 forged, lower", x.span(3, false), 1000003);
        Due.is("9 forged, upper", x.span(3, true), 1000005);
        Due.is("9 no pieces", x.span(4, false), NONE);
        Due.is("9 trace 5", x.span(5, false), BEYOND);
        Due.is("9 trace -1", x.span(-1, false), BEYOND);
        x.piece(1, 0, 1, 1);
        Due.is("9 by the pieces of now", x.span(4, false), 21);
        x.reset(0);
        Due.is("9 pieces gone", x.span(1, false), NONE);
    }

    private static void promise10Tie() {
        AfterDesk x = new AfterDesk();
        Due.is("10 no traces", x.tie(0, 1, 0), BEYOND);
        x.trace(0, 0, 0, 0);
        x.trace(0, 0, 0, 0);
        Due.is("10 the same", x.tie(1, 1, 0), BEYOND);
        Due.is("10 no a", x.tie(2, 1, 0), BEYOND);
        Due.is("10 no b", x.tie(0, 2, 0), BEYOND);
        Due.is("10 a -1", x.tie(-1, 1, 0), BEYOND);
        Due.is("10 b -1", x.tie(1, -1, 0), BEYOND);
        Due.is("10 d too high", x.tie(0, 1, 100001), BEYOND);
        Due.is("10 d too low", x.tie(0, 1, -100001), BEYOND);
        Due.is("10 a behind", x.tie(0, 1, -100000), 1);
        Due.is("10 at least", x.apart(0, 1, false), -100000);
        Due.is("10 no more than", x.apart(0, 1, true), NONE);
        Due.is("10 ahead", x.tie(0, 1, 100000), 2);
        Due.is("10 both hold", x.apart(0, 1, false), 100000);
        for (int i = 3; i <= 24; i++) {
            Due.is("10 tie " + i, x.tie(0, 1, i), i);
        }
        Due.is("10 one more", x.tie(0, 1, 0), FULL);
        Due.is("10 BEYOND ahead of FULL", x.tie(0, 0, 0), BEYOND);
    }

    private static void promise11Untie() {
        AfterDesk x = new AfterDesk();
        Due.is("11 none", x.untie(0), BEYOND);
        x.trace(0, 0, 0, 0);
        x.trace(0, 0, 0, 0);
        x.tie(0, 1, 5);
        x.tie(0, 1, 9);
        x.tie(0, 1, 7);
        Due.is("11 -1", x.untie(-1), BEYOND);
        Due.is("11 3", x.untie(3), BEYOND);
        Due.is("11 all hold", x.apart(0, 1, false), 9);
        Due.is("11 the middle one goes", x.untie(1), 2);
        Due.is("11 two hold", x.apart(0, 1, false), 7);
        Due.is("11 the one behind moved up", x.untie(1), 1);
        Due.is("11 one holds", x.apart(0, 1, false), 5);
        Due.is("11 1 is gone", x.untie(1), BEYOND);
        Due.is("11 the last goes", x.untie(0), 0);
        Due.is("11 none holds", x.apart(0, 1, false), NONE);
    }

    private static void promise12Time() {
        AfterDesk x = new AfterDesk();
        Due.is("12 no trace", x.time(0, false), BEYOND);
        x.piece(0, 0, -10, 10);
        x.trace(0, 0, 100, 0);
        x.trace(0, 0, 105, 1);
        x.trace(1, 0, 50, 2);
        x.trace(0, 3, 0, 3);
        Due.is("12 earliest by the span", x.time(0, false), 90);
        Due.is("12 latest by the span", x.time(0, true), 110);
        Due.is("12 copied, earliest", x.time(2, false), 40);
        Due.is("12 copied, latest", x.time(2, true), NONE);
        Due.is("12 free, earliest", x.time(3, false), NONE);
        Due.is("12 free, latest", x.time(3, true), NONE);
        x.tie(1, 0, 3);
        Due.is("12 earliest by the tie", x.time(0, false), 98);
        Due.is("12 latest by the tie", x.time(1, true), 107);
        x.tie(2, 3, 1);
        x.tie(3, 1, 2);
        Due.is("12 over two ties", x.time(2, true), 104);
        Due.is("12 between two ties, earliest", x.time(3, false), 41);
        Due.is("12 between two ties, latest", x.time(3, true), 105);
        x.tie(0, 3, 2);
        Due.is("12 round a ring", x.time(3, true), STATE);
        x.untie(3);
        x.tie(1, 0, 15);
        Due.is("12 the last that can be, ahead", x.time(1, true), 95);
        Due.is("12 the last that can be, behind", x.time(0, false), 110);
        x.tie(1, 0, 16);
        Due.is("12 one more can't be", x.time(0, false), STATE);
        Due.is("12 trace 4", x.time(4, false), BEYOND);
        Due.is("12 trace -1", x.time(-1, false), BEYOND);
        AfterDesk y = new AfterDesk();
        y.piece(0, 0, -100000, -100000);
        y.trace(0, 0, 0, 0);
        y.trace(0, 1, 0, 0);
        y.tie(1, 0, 100000);
        Due.is("12 below 0", y.time(1, true), -200000);
        Due.is("12 below 0, earliest", y.time(1, false), NONE);
    }

    private static void promise13Apart() {
        AfterDesk x = new AfterDesk();
        x.piece(0, 0, -1, 2);
        x.trace(0, 0, 10, 0);
        Due.is("13 one trace", x.apart(0, 1, false), BEYOND);
        x.trace(0, 0, 20, 1);
        x.trace(1, 0, 30, 2);
        x.trace(0, 1, 30, 3);
        Due.is("13 least by the spans", x.apart(0, 1, false), 7);
        Due.is("13 most by the spans", x.apart(0, 1, true), 13);
        Due.is("13 the other way", x.apart(1, 0, false), -13);
        Due.is("13 copied, least", x.apart(0, 2, false), 17);
        Due.is("13 copied, most", x.apart(0, 2, true), NONE);
        Due.is("13 free", x.apart(0, 3, false), NONE);
        x.tie(0, 3, 4);
        x.tie(3, 1, 5);
        Due.is("13 least by ties", x.apart(0, 3, false), 4);
        Due.is("13 most by ties", x.apart(0, 3, true), 8);
        Due.is("13 two ties", x.apart(0, 1, false), 9);
        Due.is("13 the same", x.apart(1, 1, false), BEYOND);
        Due.is("13 no a", x.apart(4, 1, false), BEYOND);
        Due.is("13 no b", x.apart(1, 4, false), BEYOND);
        Due.is("13 a -1", x.apart(-1, 1, false), BEYOND);
        Due.is("13 b -1", x.apart(1, -1, false), BEYOND);
        x.tie(1, 3, 0);
        Due.is("13 no good times", x.apart(0, 2, false), STATE);
        Due.is("13 BEYOND ahead of STATE", x.apart(0, 0, false), BEYOND);
    }

    private static void promise14Quarrel() {
        AfterDesk x = new AfterDesk();
        Due.is("14 nothing", x.quarrel(), NONE);
        x.piece(0, 0, 0, 0);
        for (int i = 0; i < 5; i++) {
            x.trace(0, i < 3 ? 0 : 1, 10 * i, 0);
        }
        Due.is("14 no ties", x.quarrel(), NONE);
        x.tie(3, 4, 6);
        x.tie(0, 3, 5);
        x.tie(4, 1, 0);
        Due.is("14 four, over the spans of two", x.quarrel(), 27);
        x.tie(2, 4, 1);
        Due.is("14 three, over the spans of two", x.quarrel(), 22);
        x.tie(0, 4, 11);
        Due.is("14 of two threes the least", x.quarrel(), 19);
        x.tie(1, 2, 11);
        Due.is("14 two", x.quarrel(), 6);
        x.tie(3, 4, 1);
        x.tie(4, 3, 0);
        Due.is("14 of two the least", x.quarrel(), 6);
        x.untie(5);
        Due.is("14 the other two", x.quarrel(), 24);
        x.reset(0);
        Due.is("14 without spans", x.quarrel(), 24);
    }

    private static void promise14QuarrelOfMany() {
        AfterDesk x = new AfterDesk();
        for (int i = 0; i < 12; i++) {
            x.trace(i % 3, 0, 0, 0);
        }
        for (int i = 0; i < 12; i++) {
            x.tie(i, (i + 1) % 12, i == 11 ? -11 : 1);
        }
        Due.is("14 a ring of 0 is good", x.quarrel(), NONE);
        x.tie(11, 0, -10);
        Due.is("14 all twelve", x.quarrel(), 4095);
        x.tie(10, 1, -8);
        Due.is("14 ten of twelve", x.quarrel(), 2046);
        x.tie(11, 3, -7);
        Due.is("14 nine of twelve", x.quarrel(), 4088);
        x.tie(8, 0, -7);
        Due.is("14 another nine, the least", x.quarrel(), 511);
    }

    private static void promise15Without() {
        AfterDesk x = new AfterDesk();
        x.piece(0, 0, 0, 0);
        x.trace(0, 0, 10, 0);
        x.trace(0, 1, 0, 0);
        x.trace(0, 0, 30, 0);
        x.tie(0, 1, 5);
        x.tie(1, 2, 5);
        Due.is("15 all", x.time(1, true), 25);
        Due.is("15 without the last", x.without(1, 2, true), NONE);
        Due.is("15 without the last, earliest", x.without(1, 2, false), 15);
        Due.is("15 without the first", x.without(1, 0, true), 25);
        Due.is("15 without the first, earliest", x.without(1, 0, false), NONE);
        Due.is("15 the same", x.without(1, 1, true), BEYOND);
        Due.is("15 no trace", x.without(3, 0, true), BEYOND);
        Due.is("15 no other", x.without(0, 3, true), BEYOND);
        Due.is("15 trace -1", x.without(-1, 0, true), BEYOND);
        Due.is("15 other -1", x.without(0, -1, true), BEYOND);
        x.tie(2, 0, 0);
        Due.is("15 the quarrel stays", x.without(0, 1, true), STATE);
        Due.is("15 the quarrel goes", x.without(0, 2, true), 10);
        Due.is("15 ties stay where they were", x.count(1), 3);
    }

    private static void promise16Deed() {
        AfterDesk x = new AfterDesk();
        Due.is("16 known", x.deed(0, 0, 0, 0, 0), 1);
        Due.is("16 last, all marks", x.deed(9, 1000, 65535, 65535, 65535), 1);
        Due.is("16 count", x.count(2), 2);
        Due.is("16 its price", x.cost(512), 1000);
        Due.is("16 again, otherwise", x.deed(9, 7, 0, 0, 0), 1);
        Due.is("16 count", x.count(2), 2);
        Due.is("16 its new price", x.cost(512), 7);
        Due.is("16 deed 10", x.deed(10, 0, 0, 0, 0), BEYOND);
        Due.is("16 deed -1", x.deed(-1, 0, 0, 0, 0), BEYOND);
        Due.is("16 price -1", x.deed(1, -1, 0, 0, 0), BEYOND);
        Due.is("16 price 1001", x.deed(1, 1001, 0, 0, 0), BEYOND);
        for (int row : new int[] {-1, 65536, Integer.MIN_VALUE, Integer.MAX_VALUE}) {
            Due.is("16 always " + row, x.deed(1, 0, row, 0, 0), BEYOND);
            Due.is("16 mostly " + row, x.deed(1, 0, 0, row, 0), BEYOND);
            Due.is("16 wipes " + row, x.deed(1, 0, 0, 0, row), BEYOND);
        }
        Due.is("16 nothing came", x.count(2), 2);
    }

    private static void promise17Forget() {
        AfterDesk x = new AfterDesk();
        x.deed(3, 1, 0, 0, 0);
        Due.is("17 never known", x.forget(2), 0);
        Due.is("17 known", x.forget(3), 1);
        Due.is("17 no more", x.forget(3), 0);
        Due.is("17 not in stories", x.cost(8), BEYOND);
        Due.is("17 count", x.count(2), 0);
        Due.is("17 deed 10", x.forget(10), BEYOND);
        for (int wild : WILD) {
            Due.is("17 deed " + wild, x.forget(wild), BEYOND);
        }
    }

    private static void promise18Prices() {
        AfterDesk x = new AfterDesk();
        x.trace(2, 0, 0, 0);
        x.deed(0, 100, 0, 6, 0);
        Due.is("18 at first", x.cost(1), 145);
        Due.is("18 changed", x.prices(1, 1000), 1);
        Due.is("18 new ones", x.cost(1), 1102);
        Due.is("18 miss too high", x.prices(1001, 0), BEYOND);
        Due.is("18 forge too high", x.prices(0, 1001), BEYOND);
        Due.is("18 miss -1", x.prices(-1, 0), BEYOND);
        Due.is("18 forge -1", x.prices(0, -1), BEYOND);
        Due.is("18 still those", x.cost(1), 1102);
        Due.is("18 edges", x.prices(1000, 0), 1);
        Due.is("18 edges", x.cost(1), 2100);
        Due.is("18 nothing", x.prices(0, 0), 1);
        Due.is("18 nothing", x.cost(1), 100);
    }

    private static void promise19Cost() {
        AfterDesk x = new AfterDesk();
        x.deed(0, 5, 1, 0, 0);
        x.deed(1, 6, 0, 0, 1);
        x.deed(2, 7, 0, 1, 0);
        Due.is("19 always, not there", x.cost(1), STATE);
        Due.is("19 always, wiped", x.cost(3), 11);
        Due.is("19 mostly, not there", x.cost(4), 17);
        Due.is("19 mostly, wiped", x.cost(6), 13);
        Due.is("19 mostly and always, wiped", x.cost(7), 18);
        Due.is("19 deed 3 isn't known", x.cost(8), BEYOND);
        Due.is("19 no deed 10", x.cost(1024), BEYOND);
        for (int wild : WILD) {
            Due.is("19 story " + wild, x.cost(wild), BEYOND);
        }
        x.trace(0, 0, 0, 0);
        Due.is("19 there, none leaves it", x.cost(0), STATE);
        Due.is("19 there, only wiped", x.cost(2), STATE);
        Due.is("19 there, always", x.cost(1), 5);
        Due.is("19 there, always and wiped", x.cost(3), 11);
        Due.is("19 there, mostly", x.cost(4), 7);
        Due.is("19 there, mostly and wiped", x.cost(6), 13);
    }

    private static void promise19CostOfMissesAndForgeries() {
        AfterDesk x = new AfterDesk();
        x.deed(0, 0, 0, 0xF0, 0x10);
        x.deed(1, 0, 0, 0x20, 0);
        x.deed(2, 0, 0x20, 0, 0x20);
        Due.is("19 a miss for each mark", x.cost(1), 30);
        Due.is("19 once for two deeds", x.cost(3), 30);
        Due.is("19 none where one leaves it always", x.cost(7), 20);
        x.trace(2, 0, 0, 9);
        x.trace(2, 0, 0, 9);
        x.trace(2, 0, 0, 8);
        Due.is("19 for each forged trace", x.cost(0), 75);
        x.deed(3, 0, 0x100, 0, 0x100);
        Due.is("19 a forged trace may be left, too", x.cost(8), 50);
        x.trace(1, 0, 0, 9);
        Due.is("19 a copied one has it, too", x.cost(0), STATE);
        x.deed(4, 0, 0, 0x200, 0);
        Due.is("19 then a deed must leave it", x.cost(16), 25);
    }

    private static void promise20Least() {
        AfterDesk x = new AfterDesk();
        Due.is("20 the empty story", x.least(), 0);
        x.trace(0, 0, 0, 4);
        Due.is("20 none", x.least(), NONE);
        x.deed(7, 900, 16, 0, 0);
        Due.is("20 one", x.least(), 900);
        x.deed(8, 800, 0, 48, 0);
        Due.is("20 a lesser one", x.least(), 810);
        x.prices(100, 0);
        Due.is("20 at the same price", x.least(), 900);
        x.prices(101, 0);
        Due.is("20 the first again", x.least(), 900);
        x.forget(7);
        Due.is("20 without the first", x.least(), 901);
        x.drop();
        Due.is("20 the mark is gone", x.least(), 0);
    }

    private static void promise21Many() {
        AfterDesk x = new AfterDesk();
        Due.is("21 the empty one", x.many(), 1);
        for (int d = 0; d < 10; d++) {
            x.deed(d, 0, 0, 0, 0);
        }
        Due.is("21 all", x.many(), 1024);
        x.trace(0, 0, 0, 0);
        Due.is("21 none", x.many(), 0);
        x.deed(4, 1, 1, 0, 0);
        Due.is("21 half", x.many(), 512);
        Due.is("21 no finding", x.found(2), 0);
    }

    private static void promise22Story() {
        AfterDesk x = new AfterDesk();
        Due.is("22 the empty one", x.story(0), 0);
        Due.is("22 no more", x.story(1), NONE);
        Due.is("22 -1", x.story(-1), BEYOND);
        for (int d = 0; d < 10; d++) {
            x.deed(d, 0, 0, 0, 0);
        }
        for (int i = 0; i < 1024; i += 93) {
            Due.is("22 story " + i, x.story(i), i);
        }
        Due.is("22 1024", x.story(1024), NONE);
        x.deed(1, 1, 0, 0, 0);
        Due.is("22 rising", x.story(2), 4);
        x.trace(0, 0, 0, 0);
        Due.is("22 none", x.story(0), NONE);
        Due.is("22 far", x.story(Integer.MAX_VALUE), NONE);
        Due.is("22 below", x.story(Integer.MIN_VALUE), BEYOND);
    }

    private static void promise23Sure() {
        AfterDesk x = new AfterDesk();
        Due.is("23 not known", x.sure(0), BEYOND);
        x.trace(0, 0, 0, 0);
        x.trace(0, 0, 0, 1);
        x.deed(0, 5, 1, 0, 0);
        Due.is("23 no stories", x.sure(0), NONE);
        Due.is("23 BEYOND ahead of NONE", x.sure(1), BEYOND);
        x.deed(1, 5, 2, 0, 0);
        x.deed(2, 5, 0, 2, 0);
        x.deed(3, 1, 0, 0, 0);
        Due.is("23 sure", x.sure(0), 1);
        Due.is("23 neither", x.sure(1), 0);
        Due.is("23 neither", x.sure(2), 0);
        Due.is("23 out", x.sure(3), -1);
        x.forget(2);
        Due.is("23 sure by now", x.sure(1), 1);
        Due.is("23 known no more", x.sure(2), BEYOND);
        Due.is("23 deed 10", x.sure(10), BEYOND);
        for (int wild : WILD) {
            Due.is("23 deed " + wild, x.sure(wild), BEYOND);
        }
    }

    private static void promise24Parts() {
        AfterDesk x = partedDesk();
        Due.is("24 one of three", x.parts(4), 1);
        Due.is("24 two of three", x.parts(5), 1);
        Due.is("24 three of three", x.parts(6), 0);
        Due.is("24 none of three", x.parts(7), 0);
        Due.is("24 wiped", x.parts(8), 0);
        Due.is("24 there", x.parts(0), STATE);
        Due.is("24 mark 16", x.parts(16), BEYOND);
        Due.is("24 mark -1", x.parts(-1), BEYOND);
        x.trace(0, 0, 0, 15);
        Due.is("24 no stories", x.parts(4), NONE);
        Due.is("24 STATE ahead of NONE", x.parts(15), STATE);
        Due.is("24 BEYOND ahead of all", x.parts(16), BEYOND);
    }

    /** LEAST STORIES are deed 0, deed 1 and deed 2, each for itself. */
    private static AfterDesk partedDesk() {
        AfterDesk x = new AfterDesk();
        x.prices(0, 0);
        x.trace(0, 0, 0, 0);
        x.deed(0, 3, 1, 0x70, 0);
        x.deed(1, 3, 1, 0x60, 0);
        x.deed(2, 3, 1, 0x140, 0x100);
        return x;
    }

    private static void promise25Ask() {
        AfterDesk x = partedDesk();
        Due.is("25 of several the least", x.ask(), 4);
        x.deed(1, 3, 1, 0, 0);
        Due.is("25 still", x.ask(), 4);
        x.deed(0, 3, 1, 0x40, 0);
        Due.is("25 another", x.ask(), 6);
        x.deed(3, 3, 1, 0x80, 0);
        Due.is("25 the one that parts most", x.ask(), 6);
        x.trace(2, 0, 0, 6);
        Due.is("25 not what is there", x.ask(), 7);
        x.trace(0, 0, 0, 14);
        Due.is("25 no stories", x.ask(), NONE);
        AfterDesk y = new AfterDesk();
        y.trace(2, 0, 0, 0);
        y.trace(2, 0, 0, 1);
        Due.is("25 none parts, the least that isn't there", y.ask(), 2);
    }

    private static void promise26Tell() {
        AfterDesk x = new AfterDesk();
        for (int i = 1; i <= 30; i++) {
            Due.is("26 tell " + i, x.tell(i % 2 == 0 ? Integer.MIN_VALUE : Integer.MAX_VALUE), i);
        }
        Due.is("26 one more", x.tell(0), FULL);
        Due.is("26 how many", x.count(3), 30);
        Due.is("26 more were told", x.check(), 99);
        Due.is("26 again", x.tell(0), 1);
    }

    private static void promise27Check() {
        AfterDesk x = new AfterDesk();
        Due.is("27 nothing", x.check(), 0);
        x.piece(0, 0, -1, 2);
        x.trace(0, 0, 10, 0);
        x.trace(0, 0, 20, 0);
        x.trace(0, 0, 30, 0);
        Due.is("27 all missing", x.check(), 1);
        tellAll(x, 9, 12, 19, 22, 29, 32);
        Due.is("27 right", x.check(), 0);
        Due.is("27 none wait then", x.count(3), 0);
        tellAll(x, 9, 12, 19, 22, 29, 32, 0);
        Due.is("27 one more", x.check(), 99);
        tellAll(x, 9, 12, 19, 22, 29);
        Due.is("27 one is missing", x.check(), 3);
        tellAll(x, 9, 12, 19, 22);
        Due.is("27 two are missing", x.check(), 3);
        tellAll(x, 9, 12, 18, 22, 28, 32);
        Due.is("27 earliest is wrong", x.check(), 2);
        tellAll(x, 9, 12, 19, 23, 29, 32);
        Due.is("27 latest is wrong", x.check(), 2);
        tellAll(x, 8, 12, 19, 22, 29, 32, 0);
        Due.is("27 wrong ahead of more", x.check(), 1);
        x.tie(1, 0, 0);
        tellAll(x, 9, 12);
        Due.is("27 no good times", x.check(), STATE);
        Due.is("27 they are gone", x.count(3), 0);
        x.untie(0);
        x.tie(0, 1, 13);
        tellAll(x, 9, 9, 22, 22, 29, 32);
        Due.is("27 by ties", x.check(), 0);
    }

    private static void promise27CheckWhereThereIsNone() {
        AfterDesk x = new AfterDesk();
        x.piece(0, 0, 5, 5);
        x.trace(0, 0, 0, 0);
        x.trace(1, 0, 0, 0);
        x.trace(0, 1, 0, 0);
        tellAll(x, 5, 5, 5, 0, 0, 0, 0);
        Due.is("27 no latest", x.check(), 2);
        x.tie(1, 0, 0);
        tellAll(x, 5, 5, 5, 5, 0, 0, 0);
        Due.is("27 neither", x.check(), 3);
        x.tie(2, 0, 0);
        tellAll(x, 5, 5, 5, 5, 0, 5);
        Due.is("27 no earliest", x.check(), 3);
        x.tie(1, 2, 0);
        tellAll(x, 5, 5, 5, 5, 5, 5);
        Due.is("27 both", x.check(), 0);
    }

    private static void tellAll(AfterDesk x, int... numbers) {
        for (int number : numbers) {
            x.tell(number);
        }
    }

    private static void promise28Count() {
        AfterDesk x = new AfterDesk();
        x.trace(0, 0, 0, 3);
        x.trace(2, 0, 0, 3);
        x.trace(1, 0, 0, 4);
        x.tie(0, 1, 0);
        x.deed(0, 0, 0, 0, 0);
        x.deed(5, 0, 0, 0, 0);
        x.deed(9, 0, 0, 0, 0);
        x.deed(9, 0, 0, 0, 0);
        tellAll(x, 1, 1, 1, 1, 1);
        Due.is("28 traces", x.count(0), 3);
        Due.is("28 ties", x.count(1), 1);
        Due.is("28 known deeds", x.count(2), 3);
        Due.is("28 numbers", x.count(3), 5);
        Due.is("28 marks", x.count(4), 2);
        Due.is("28 what 5", x.count(5), BEYOND);
        for (int wild : WILD) {
            Due.is("28 what " + wild, x.count(wild), BEYOND);
        }
    }

    private static void promise29Found() {
        AfterDesk x = new AfterDesk();
        Due.is("29 k 0", x.found(0), BEYOND);
        Due.is("29 k 6", x.found(6), BEYOND);
        Due.is("29 k -1", x.found(-1), BEYOND);
        Due.is("29 those are counted", x.found(1), 3);
        Due.is("29 that isn't", x.found(1), 3);
        x.drop();
        x.quarrel();
        Due.is("29 NONE", x.found(2), 2);
        x.trace(0, 0, 0, 0);
        x.as(0, 1);
        Due.is("29 KIND", x.found(3), 1);
        for (int i = 0; i < 34; i++) {
            x.tell(0);
        }
        Due.is("29 FULL", x.found(4), 4);
        x.trace(0, 0, 0, 0);
        x.tie(0, 1, 1);
        x.tie(1, 0, 1);
        x.time(0, true);
        x.apart(0, 1, true);
        x.check();
        x.cost(0);
        x.parts(0);
        Due.is("29 STATE", x.found(5), 5);
        Due.is("29 BEYOND is as it was", x.found(1), 3);
    }

    private static void findingsChangeNothing() {
        AfterDesk x = new AfterDesk();
        x.piece(0, 0, 1, 2);
        x.trace(0, 0, 5, 6);
        x.trace(0, 0, 7, 6);
        x.tie(0, 1, 2);
        x.deed(0, 9, 64, 0, 0);
        x.tell(6);
        x.piece(0, 0, 9, 9);
        x.trace(0, 0, 5, 16);
        x.tie(0, 0, 2);
        x.untie(1);
        x.deed(0, 1001, 64, 0, 0);
        x.deed(1, 1, 64, 0, 65536);
        x.prices(0, 1001);
        Due.is("terms: offset", x.offset(0, 5, true), 2);
        Due.is("terms: traces", x.count(0), 2);
        Due.is("terms: ties", x.count(1), 1);
        Due.is("terms: deeds", x.count(2), 1);
        Due.is("terms: numbers", x.count(3), 1);
        Due.is("terms: cost", x.cost(1), 9);
        Due.is("terms: BEYOND", x.found(1), 7);
    }
}
