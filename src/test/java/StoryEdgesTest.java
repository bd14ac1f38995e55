/** The boundary cases of DEEDS and STORIES: promises 16 to 25, and what "Terms" says of them. */
public final class StoryEdgesTest {
    private static final long BEYOND = Due.BEYOND;
    private static final long NONE = Due.NONE;
    private static final long STATE = Due.STATE;

    public static void main(String[] args) {
        deedOfEachNumber();
        deedOfEachPrice();
        deedOfEachRow();
        deedTwice();
        deedOfNothing();
        forgetEach();
        forgetWhatIsntKnown();
        forgetAndLearnAgain();
        pricesOfMiss();
        pricesOfForge();
        pricesAtFirst();
        costOfEachStory();
        costOfTheEmptyStory();
        costOfUnknownDeeds();
        costOfWhatIsAlwaysLeft();
        costOfWhatIsThere();
        costOfWhatIsMostlyLeft();
        costOfForgedOnes();
        costOfLeastAndGreatest();
        costBeyondAheadOfState();
        leastOfNone();
        leastOfTheEmptyStory();
        leastOfLeastAndGreatest();
        manyOfNoneAndAll();
        storyOfEachNumber();
        storyOfNone();
        storyOfAll();
        sureOfEachDeed();
        sureOfAnUnknownDeed();
        sureOfNoStories();
        sureOfAllSomeAndNone();
        partsOfEachMark();
        partsOfNoneHalfAndAll();
        partsOfAWipedMark();
        partsBeyondAheadOfState();
        partsStateAheadOfNone();
        askOfNoStories();
        askOfWhatPartsNothing();
        askOfSeveral();
        askOfTheLastMarks();
        Due.end();
    }

    private static void deedOfEachNumber() {
        Edge.of("16 no such deed", Desks.EMPTY, "deed 0 1 2 3 4", 0).letsIn(0, 1).letsIn(9, 1).refuses(-1, 10);
        Edge.of("16 no such deed", Desks.FULL, "deed 0 1 2 3 4", 0).letsIn(0, 1).letsIn(9, 1).refuses(-1, 10);
    }

    private static void deedOfEachPrice() {
        Edge.of("16 price", Desks.PLAIN, "deed 1 20 2 3 4", 1).letsIn(0, 1).letsIn(1000, 1).refuses(-1, 1001);
        AfterDesk x = new AfterDesk();
        x.deed(3, 1000, 0, 0, 0);
        Due.is("16 the greatest price", x.cost(8), 1000);
        x.deed(3, 0, 0, 0, 0);
        Due.is("16 the least price", x.cost(8), 0);
    }

    private static void deedOfEachRow() {
        Edge.of("16 always", Desks.PLAIN, "deed 1 20 2 3 4", 2).letsIn(0, 1).letsIn(65535, 1).refuses(-1, 65536);
        Edge.of("16 mostly", Desks.PLAIN, "deed 1 20 2 3 4", 3).letsIn(0, 1).letsIn(65535, 1).refuses(-1, 65536);
        Edge.of("16 wipes", Desks.PLAIN, "deed 1 20 2 3 4", 4).letsIn(0, 1).letsIn(65535, 1).refuses(-1, 65536);
        AfterDesk x = new AfterDesk();
        x.deed(0, 0, 32768, 0, 0);
        Due.is("16 mark 15 is always left", x.cost(1), STATE);
        x.deed(0, 0, 32768, 0, 32768);
        Due.is("16 mark 15 is wiped", x.cost(1), 0);
        x.deed(0, 0, 0, 32768, 0);
        Due.is("16 mark 15 is mostly left", x.cost(1), 10);
        x.deed(0, 0, 0, 1, 0);
        Due.is("16 mark 0 is mostly left", x.cost(1), 10);
    }

    private static void deedTwice() {
        AfterDesk x = Desks.PLAIN.make();
        Due.is("16 a known one", x.deed(2, 1, 0, 64, 0), 1);
        Due.is("16 is one still", x.count(2), 4);
        Due.is("16 at its new price", x.cost(6), 28);
        Due.is("16 the least knows it", x.least(), 28);
    }

    private static void deedOfNothing() {
        AfterDesk x = new AfterDesk();
        Due.is("16 all 0", x.deed(0, 0, 0, 0, 0), 1);
        Due.is("16 is known", x.count(2), 1);
        Due.is("16 is a story", x.cost(1), 0);
        Due.is("16 there are two", x.many(), 2);
    }

    private static void forgetEach() {
        Edge.of("17 no such deed", Desks.FULL, "forget 0", 0).letsIn(0, 1).letsIn(9, 1).refuses(-1, 10);
        Edge.of("17 no such deed", Desks.EMPTY, "forget 0", 0).letsIn(0, 0).letsIn(9, 0).refuses(-1, 10);
    }

    private static void forgetWhatIsntKnown() {
        AfterDesk x = Desks.PLAIN.make();
        Due.is("17 never known", x.forget(3), 0);
        Due.is("17 known", x.forget(5), 1);
        Due.is("17 known no more", x.forget(5), 0);
        Due.is("17 no finding", x.found(1) + x.found(2), 0);
        Due.is("17 the others are known", x.count(2), 3);
        Due.is("17 the least stories lack it", x.many(), 2);
        Due.is("17 it can't be asked for", x.sure(5), BEYOND);
        Due.is("17 it is in no story", x.cost(33), BEYOND);
    }

    private static void forgetAndLearnAgain() {
        AfterDesk x = Desks.FULL.make();
        for (int d = 0; d < 10; d++) {
            Due.is("17 forgotten", x.forget(d), 1);
            Due.is("17 fewer are known", x.count(2), 9 - d);
        }
        Due.is("17 no story explains", x.many(), 0);
        x.deed(9, 4, 0, 65535, 0);
        Due.is("17 one is known again", x.count(2), 1);
        Due.is("17 with its new price and marks", x.cost(512), 16);
    }

    private static void pricesOfMiss() {
        Edge.of("18 miss", Desks.PLAIN, "prices 1 2", 0).letsIn(0, 1).letsIn(1000, 1).refuses(-1, 1001);
        AfterDesk x = new AfterDesk();
        x.deed(0, 0, 0, 3, 0);
        x.prices(1000, 0);
        Due.is("18 the greatest miss", x.cost(1), 2000);
        x.prices(0, 1000);
        Due.is("18 the least miss", x.cost(1), 0);
        Due.is("18 two stories at the least miss", x.many(), 2);
        x.prices(1, 1000);
        Due.is("18 one story at a greater one", x.many(), 1);
    }

    private static void pricesOfForge() {
        Edge.of("18 forge", Desks.PLAIN, "prices 1 2", 1).letsIn(0, 1).letsIn(1000, 1).refuses(-1, 1001);
        AfterDesk x = new AfterDesk();
        x.trace(2, 0, 0, 0);
        x.trace(2, 0, 0, 0);
        x.prices(0, 1000);
        Due.is("18 the greatest forge", x.cost(0), 2000);
        x.prices(1000, 0);
        Due.is("18 the least forge", x.cost(0), 0);
        Due.is("18 the least story at it", x.least(), 0);
        x.prices(1000, 1);
        Due.is("18 the least story at a greater one", x.least(), 2);
        Refusal.is("18 neither", Desks.PLAIN, "prices -1 1001", BEYOND);
    }

    private static void pricesAtFirst() {
        AfterDesk x = new AfterDesk();
        x.deed(0, 0, 0, 1, 0);
        Due.is("18 miss is 10 at first", x.cost(1), 10);
        x.trace(2, 0, 0, 1);
        Due.is("18 forge is 25 at first", x.cost(0), 25);
        Due.is("18 a refused miss", x.prices(1001, 3), BEYOND);
        Due.is("18 a refused forge", x.prices(3, 1001), BEYOND);
        Due.is("18 both are as at first", x.cost(1), 35);
    }

    private static void costOfEachStory() {
        Edge.of("19 others than known ones", Desks.FULL, "cost 0", 0).letsIn(1023, 9).refuses(-1, 1024);
        Edge.of("19 others than known ones", Desks.EMPTY, "cost 0", 0).letsIn(0, 0).refuses(-1, 1);
        Edge.of("19 others than known ones", Desks.PLAIN, "cost 0", 0).letsIn(1, 37).letsIn(39, 67).refuses(-1, 40);
        for (int bit = 10; bit < 32; bit++) {
            Refusal.is("19 no such deed", Desks.FULL, "cost " + (1 << bit), BEYOND);
            Refusal.is("19 no such deed beside all", Desks.FULL, "cost " + (1 << bit | 1023), BEYOND);
        }
    }

    private static void costOfTheEmptyStory() {
        AfterDesk x = new AfterDesk();
        Due.is("19 nothing explains nothing", x.cost(0), 0);
        x.trace(2, 0, 0, 0);
        Due.is("19 nothing, a forged one", x.cost(0), 25);
        x.trace(1, 0, 0, 1);
        Due.is("19 nothing, a copied one", x.cost(0), STATE);
    }

    private static void costOfUnknownDeeds() {
        for (int d : new int[] {3, 4, 6, 7, 8, 9}) {
            Refusal.is("19 an unknown one", Desks.PLAIN, "cost " + (1 << d), BEYOND);
            Refusal.is("19 an unknown one beside a known one", Desks.PLAIN, "cost " + (1 << d | 1), BEYOND);
        }
    }

    private static void costOfWhatIsAlwaysLeft() {
        AfterDesk x = new AfterDesk();
        x.deed(0, 3, 1, 0, 0);
        Due.is("19 always, not there, not wiped", x.cost(1), STATE);
        x.deed(0, 3, 1, 0, 1);
        Due.is("19 always, not there, wiped by itself", x.cost(1), 3);
        x.deed(0, 3, 1, 1, 0);
        Due.is("19 always and mostly, not there", x.cost(1), STATE);
        x.deed(1, 4, 0, 0, 1);
        Due.is("19 always, not there, wiped by another", x.cost(3), 7);
        x.trace(2, 0, 0, 0);
        Due.is("19 always, there by a forged one", x.cost(1), 3);
    }

    private static void costOfWhatIsThere() {
        AfterDesk x = new AfterDesk();
        x.trace(0, 0, 0, 0);
        x.deed(0, 3, 0, 1, 0);
        x.deed(1, 4, 1, 0, 0);
        x.deed(2, 5, 0, 0, 1);
        Due.is("19 there, left by none", x.cost(0), STATE);
        Due.is("19 there, wiped alone", x.cost(4), STATE);
        Due.is("19 there, mostly left", x.cost(1), 3);
        Due.is("19 there, always left", x.cost(2), 4);
        Due.is("19 there, left and wiped", x.cost(5), 8);
        x.trace(2, 0, 0, 0);
        Due.is("19 not by forged ones alone", x.cost(0), STATE);
    }

    private static void costOfWhatIsMostlyLeft() {
        AfterDesk x = new AfterDesk();
        x.deed(0, 0, 0, 3, 0);
        x.deed(1, 0, 0, 1, 0);
        x.deed(2, 0, 2, 0, 2);
        Due.is("19 two misses", x.cost(1), 20);
        Due.is("19 one miss by two deeds", x.cost(3), 20);
        Due.is("19 none where one leaves it always", x.cost(7), 10);
        x.deed(3, 0, 0, 0, 1);
        Due.is("19 none where one wipes it", x.cost(9), 10);
        x.trace(2, 0, 0, 0);
        Due.is("19 none where it is there", x.cost(1), 10);
    }

    private static void costOfForgedOnes() {
        AfterDesk x = new AfterDesk();
        x.deed(0, 1, 0, 1, 0);
        for (int i = 1; i <= 12; i++) {
            x.trace(2, 0, 0, i % 2);
            Due.is("19 each forged one is paid", x.cost(0), 25 * i);
        }
        Due.is("19 but not those whose mark is left", x.cost(1), 151);
        x.deed(0, 1, 0, 1, 1);
        Due.is("19 nor those that are wiped, too", x.cost(1), 151);
    }

    private static void costOfLeastAndGreatest() {
        AfterDesk x = new AfterDesk();
        x.prices(1000, 1000);
        for (int d = 0; d < 10; d++) {
            x.deed(d, 1000, 0, 65534, 0);
        }
        for (int i = 0; i < 12; i++) {
            x.trace(2, 0, 0, 0);
        }
        Due.is("19 the greatest cost", x.cost(1023), 37000);
        Due.is("19 of no deeds", x.cost(0), 12000);
        x.prices(0, 0);
        Due.is("19 of deeds alone", x.cost(1023), 10000);
        Due.is("19 the least cost", x.cost(0), 0);
    }

    private static void costBeyondAheadOfState() {
        Refusal.is("19 not possible", Desks.STORYLESS, "cost 0", STATE);
        Refusal.is("19 not possible, of all known ones", Desks.STORYLESS, "cost 39", STATE);
        Refusal.is("19 not possible, an unknown one", Desks.STORYLESS, "cost 8", BEYOND);
        Refusal.is("19 not possible, no such one", Desks.STORYLESS, "cost 1024", BEYOND);
        Refusal.is("19 not possible, below 0", Desks.STORYLESS, "cost -1", BEYOND);
    }

    private static void leastOfNone() {
        Refusal.is("20 there are none", Desks.STORYLESS, "least", NONE);
        AfterDesk x = new AfterDesk();
        x.trace(0, 0, 0, 0);
        Due.is("20 no deeds", x.least(), NONE);
        x.drop();
        x.trace(2, 0, 0, 0);
        Due.is("20 a forged one alone", x.least(), 25);
    }

    private static void leastOfTheEmptyStory() {
        AfterDesk x = new AfterDesk();
        Due.is("20 the empty one", x.least(), 0);
        x.deed(0, 1, 0, 0, 0);
        Due.is("20 is still the least", x.least(), 0);
        Due.is("20 and the only one", x.many(), 1);
    }

    private static void leastOfLeastAndGreatest() {
        AfterDesk x = new AfterDesk();
        x.prices(1000, 1000);
        for (int d = 0; d < 10; d++) {
            x.deed(d, 1000, 1 << d, 61440, 0);
            x.trace(0, 0, 0, d);
        }
        x.trace(2, 0, 0, 10);
        x.trace(2, 0, 0, 11);
        Due.is("20 all are needed", x.least(), 16000);
        Due.is("20 by one story", x.story(0), 1023);
        x.forget(0);
        Due.is("20 one is missing", x.least(), NONE);
    }

    private static void manyOfNoneAndAll() {
        Due.is("21 none", Desks.STORYLESS.make().many(), 0);
        Due.is("21 one", Desks.EMPTY.make().many(), 1);
        Due.is("21 four", Desks.PLAIN.make().many(), 4);
        AfterDesk x = new AfterDesk();
        for (int d = 0; d < 10; d++) {
            x.deed(d, 0, 0, 0, 0);
            Due.is("21 twice as many", x.many(), 2L << d);
        }
        x.trace(0, 0, 0, 0);
        Due.is("21 none any more", x.many(), 0);
        Due.is("21 none is no finding", x.found(2), 0);
    }

    private static void storyOfEachNumber() {
        Edge.of("22 of four", Desks.PLAIN, "story 0", 0)
            .letsIn(0, 1).letsIn(1, 6).letsIn(2, 33).letsIn(3, 38).letsIn(4, NONE).letsIn(Integer.MAX_VALUE, NONE);
        Refusal.is("22 none such", Desks.PLAIN, "story 4", NONE);
        Refusal.is("22 none such, the greatest", Desks.PLAIN, "story 2147483647", NONE);
        Refusal.is("22 below 0", Desks.PLAIN, "story -1", BEYOND);
        Refusal.is("22 below 0, the least", Desks.PLAIN, "story -2147483648", BEYOND);
    }

    private static void storyOfNone() {
        Refusal.is("22 there are none", Desks.STORYLESS, "story 0", NONE);
        Refusal.is("22 BEYOND ahead of NONE", Desks.STORYLESS, "story -1", BEYOND);
        Refusal.is("22 one alone", Desks.EMPTY, "story 1", NONE);
    }

    private static void storyOfAll() {
        AfterDesk x = new AfterDesk();
        for (int d = 0; d < 10; d++) {
            x.deed(d, 0, 0, 0, 0);
        }
        Due.is("22 the first", x.story(0), 0);
        Due.is("22 the middle", x.story(512), 512);
        Due.is("22 the last", x.story(1023), 1023);
        Due.is("22 one more", x.story(1024), NONE);
        x.forget(0);
        Due.is("22 by their bits", x.story(511), 1022);
        Due.is("22 half as many", x.story(512), NONE);
    }

    private static void sureOfEachDeed() {
        Edge.of("23 no such deed", Desks.FULL, "sure 0", 0).letsIn(0, 1).letsIn(9, 1).refuses(-1, 10);
    }

    private static void sureOfAnUnknownDeed() {
        Edge.of("23 none is known", Desks.EMPTY, "sure 0", 0).refuses(0, 9);
        Edge.of("23 it isn't known", Desks.PLAIN, "sure 0", 0).letsIn(0, 0).letsIn(5, 0).refuses(3, 9);
        AfterDesk x = Desks.PLAIN.make();
        x.forget(0);
        Due.is("23 known no more", x.sure(0), BEYOND);
    }

    private static void sureOfNoStories() {
        Refusal.is("23 no stories", Desks.STORYLESS, "sure 0", NONE);
        Refusal.is("23 no stories, the last known", Desks.STORYLESS, "sure 5", NONE);
        Refusal.is("23 no stories, not known", Desks.STORYLESS, "sure 3", BEYOND);
        Refusal.is("23 no stories, no such deed", Desks.STORYLESS, "sure 10", BEYOND);
    }

    private static void sureOfAllSomeAndNone() {
        AfterDesk x = new AfterDesk();
        x.deed(0, 1, 0, 0, 0);
        Due.is("23 in none: only the empty story", x.sure(0), -1);
        x.deed(0, 0, 0, 0, 0);
        Due.is("23 in one of two", x.sure(0), 0);
        x.trace(0, 0, 0, 15);
        x.deed(0, 0, 0, 32768, 0);
        Due.is("23 in the only one", x.sure(0), 1);
        x.deed(9, 0, 0, 32768, 0);
        Due.is("23 in two of three", x.sure(0), 0);
        Due.is("23 the other in two of three", x.sure(9), 0);
        x.deed(9, 1, 0, 32768, 0);
        Due.is("23 the dearer one is out", x.sure(9), -1);
        Due.is("23 the cheaper one is sure", x.sure(0), 1);
    }

    private static void partsOfEachMark() {
        Edge.of("24 no such mark", Desks.EMPTY, "parts 0", 0).letsIn(0, 0).letsIn(15, 0).refuses(-1, 16);
        Edge.of("24 no such mark", Desks.PLAIN, "parts 0", 0).letsIn(0, 0).letsIn(8, 2).letsIn(15, 0).refuses(-1, 16);
    }

    private static void partsOfNoneHalfAndAll() {
        AfterDesk x = new AfterDesk();
        x.prices(0, 0);
        x.trace(0, 0, 0, 0);
        for (int d = 0; d < 4; d++) {
            x.deed(d, 5, 1, 57344 >> d, 0);
        }
        Due.is("24 four stories", x.many(), 4);
        Due.is("24 one of four", x.parts(15), 1);
        Due.is("24 two of four", x.parts(14), 2);
        Due.is("24 three of four", x.parts(13), 1);
        Due.is("24 none of four", x.parts(1), 0);
        Due.is("24 another three of four", x.parts(12), 1);
        x.deed(0, 5, 1, 4096, 0);
        Due.is("24 four of four", x.parts(12), 0);
    }

    private static void partsOfAWipedMark() {
        AfterDesk x = new AfterDesk();
        x.trace(0, 0, 0, 0);
        x.deed(0, 0, 3, 0, 2);
        x.deed(1, 0, 1, 0, 0);
        Due.is("24 always left and wiped", x.parts(1), 0);
        x.prices(0, 0);
        x.deed(1, 0, 1, 2, 0);
        Due.is("24 left by one story of three", x.parts(1), 1);
        x.deed(0, 0, 1, 0, 0);
        Due.is("24 left by two stories of three", x.parts(1), 1);
    }

    private static void partsBeyondAheadOfState() {
        Refusal.is("24 there", Desks.PLAIN, "parts 3", STATE);
        Refusal.is("24 there by a forged one", Desks.PLAIN, "parts 5", STATE);
        Refusal.is("24 no such mark", Desks.PLAIN, "parts 16", BEYOND);
        Refusal.is("24 no such mark, no stories", Desks.STORYLESS, "parts 16", BEYOND);
        Refusal.is("24 no such mark, no stories", Desks.STORYLESS, "parts -1", BEYOND);
    }

    private static void partsStateAheadOfNone() {
        Refusal.is("24 no stories, there", Desks.STORYLESS, "parts 15", STATE);
        Refusal.is("24 no stories, there", Desks.STORYLESS, "parts 3", STATE);
        Refusal.is("24 no stories, not there", Desks.STORYLESS, "parts 0", NONE);
        Refusal.is("24 no stories, not there", Desks.STORYLESS, "parts 14", NONE);
    }

    private static void askOfNoStories() {
        Refusal.is("25 no stories", Desks.STORYLESS, "ask", NONE);
    }

    private static void askOfWhatPartsNothing() {
        AfterDesk x = new AfterDesk();
        for (int mark = 0; mark < 12; mark++) {
            Due.is("25 the least that isn't there", x.ask(), mark);
            x.trace(2, 0, 0, mark);
        }
        Due.is("25 twelve are there", x.ask(), 12);
    }

    private static void askOfSeveral() {
        AfterDesk x = Desks.PLAIN.make();
        Due.is("25 the one that parts", x.ask(), 8);
        x.deed(1, 20, 24, 1280, 0);
        Due.is("25 of several the least", x.ask(), 8);
        x.deed(0, 30, 88, 128, 0);
        Due.is("25 of several a lesser one", x.ask(), 7);
        x.trace(2, 0, 0, 7);
        x.trace(2, 0, 0, 8);
        Due.is("25 there by now", x.ask(), 10);
    }

    private static void askOfTheLastMarks() {
        AfterDesk x = new AfterDesk();
        x.prices(0, 0);
        x.deed(0, 0, 0, 32768, 0);
        Due.is("25 the last mark", x.ask(), 15);
        x.deed(0, 0, 0, 32769, 0);
        Due.is("25 the first mark", x.ask(), 0);
        x.deed(1, 0, 0, 16384, 0);
        x.deed(2, 0, 0, 0, 16384);
        Due.is("25 half parts more than a quarter", x.ask(), 0);
        x.deed(0, 0, 0, 0, 0);
        Due.is("25 a quarter parts more than nothing", x.ask(), 14);
    }
}
