/** Promises 26 to 30: whom to ask next, what is foretold, rounds, how a form spreads and its seeds. */
public final class AskingTest {
    public static void main(String[] args) throws IllegalAccessException {
        Sentences.run(AskingTest.class);
    }

    /** Villages one behind the other by roads, and the forms a, b and c; none is told yet. */
    private static DialectAtlas line(int length, int... folk) {
        DialectAtlas x = Given.line(length, folk);
        Given.form(x, "a");
        Given.form(x, "b");
        Given.form(x, "c");
        return x;
    }

    @Says(promise = 26, term = 5, text = "NEXT for a THING, as KNOWN on a day: of VILLAGES that say nothing of it the "
            + "one that is farthest by WALK from the nearest one that says something")
    static void theFarthestFromTheNearest(Check check) {
        DialectAtlas x = line(10, 9, 9, 9, 9, 1, 9);
        Given.say(x, 0, 0, 0);
        check.due("from one", 5, x.next(0));
        Given.say(x, 5, 0, 0);
        check.due("from the nearest of two, most folk", 2, x.next(0));
        x.road(4, 5, 11);
        x.road(3, 4, 11);
        x.road(2, 3, 1);
        check.due("21 rather than 20", 3, x.next(0));
        Given.say(x, 3, 0, 0);
        check.due("11 rather than 10, with less folk", 4, x.next(0));
        check.due("of another thing all are like", 0, x.next(1));
    }

    @Says(promise = 26, term = 5, text = "(CUT is farther than all")
    static void cutIsFarther(Check check) {
        DialectAtlas x = line(99, 9, 9, 9, 9, 9, 9, 9, 9, 9, 9, 9, 1);
        x.road(10, 11, 0);
        Given.say(x, 0, 0, 0);
        check.due("one that is cut, with less folk", 11, x.next(0));
        x.road(10, 11, 1);
        check.due("joined", 11, x.next(0));
        Given.say(x, 11, 0, 0);
        check.due("between both", 5, x.next(0));
    }

    @Says(promise = 26, term = 5, text = "without any that says something: all are like)")
    static void allAreLikeWithoutAny(Check check) {
        DialectAtlas x = line(10, 5, 9, 9, 7);
        check.due("the most folk, the least", 1, x.next(0));
        x.road(2, 3, 0);
        check.due("roads do not count", 1, x.next(0));
        check.due("one village alone", 0, Given.villages(1).next(5));
    }

    @Says(promise = 26, term = 5, text = "of several that with the most FOLK")
    static void ofSeveralTheMostFolk(Check check) {
        DialectAtlas x = line(10, 5, 1, 6);
        Given.say(x, 1, 0, 0);
        check.due("5 or 6", 2, x.next(0));
        DialectAtlas cut = Given.villages(1);
        cut.village(0, 998);
        cut.village(0, 999);
        cut.village(0, 998);
        Given.form(cut, "a");
        Given.say(cut, 0, 0, 0);
        check.due("of those that are cut", 2, cut.next(0));
    }

    @Says(promise = 26, term = 5, text = "with the most FOLK, of several the least.")
    static void ofSeveralTheLeast(Check check) {
        DialectAtlas x = line(10, 5, 1, 5);
        Given.say(x, 1, 0, 0);
        check.due("5 and 5", 0, x.next(0));
        DialectAtlas cut = Given.sayers("a", "", "", "");
        check.due("of those that are cut", 1, cut.next(0));
    }

    @Says(promise = 26, text = "NEXT for a THING, as KNOWN TODAY.")
    static void nextOfToday(Check check) {
        DialectAtlas x = Given.sayers("a", "a", "");
        check.due("the one that is left", 2, x.next(0));
        x.day(3);
        x.take(0);
        check.due("one is taken back today", 0, x.next(0));
        x.undo();
        check.due("it is not", 2, x.next(0));
    }

    @Says(promise = 26, text = "BEYOND.")
    static void nextOfNoThing(Check check) {
        DialectAtlas x = Given.villages(1);
        check.due("thing 6", Check.BEYOND, x.next(6));
        check.due("thing -1", Check.BEYOND, x.next(-1));
        check.due("the greatest int", Check.BEYOND, x.next(Integer.MAX_VALUE));
        check.due("thing 5", 0, x.next(5));
    }

    @Says(promise = 26, text = "NONE: all say something (or there are no VILLAGES).")
    static void noneIsNext(Check check) {
        check.due("no villages", Check.NONE, new DialectAtlas().next(0));
        DialectAtlas x = Given.sayers("a", "a");
        check.due("all say something", Check.NONE, x.next(0));
        check.due("not of this thing", 0, x.next(1));
    }

    @Says(promise = 27, term = 5, text = "FORETOLD for a VILLAGE: the FORM with the greatest sum, over VILLAGES that say it")
    static void theGreatestSumIsForetold(Check check) {
        DialectAtlas x = line(1, 1, 10, 12, 12);
        Given.say(x, 1, 0, 2);
        Given.say(x, 2, 0, 1);
        check.due("5 for c, 4 for b", 2, x.foretold(0, 0));
        Given.say(x, 3, 0, 1);
        check.due("5 for c, 4 and 3 for b", 1, x.foretold(0, 0));
    }

    @Says(promise = 27, term = 5, text = "and aren't CUT from it")
    static void thoseThatAreCutDoNotCount(Check check) {
        DialectAtlas x = line(1, 1, 1, 999);
        Given.say(x, 1, 0, 2);
        Given.say(x, 2, 0, 1);
        check.due("joined", 1, x.foretold(0, 0));
        x.road(1, 2, 0);
        check.due("cut", 2, x.foretold(0, 0));
    }

    @Says(promise = 27, term = 5, text = "(itself left out)")
    static void itselfIsLeftOut(Check check) {
        DialectAtlas x = line(99, 999, 1);
        Given.say(x, 0, 0, 0);
        check.due("no other one says anything", Check.NONE, x.foretold(0, 0));
        Given.say(x, 1, 0, 1);
        check.due("what the other one says", 1, x.foretold(0, 0));
    }

    @Says(promise = 27, term = 5, text = "of FOLK by (1 and the WALK), each cut")
    static void folkByTheWalkEachCut(Check check) {
        DialectAtlas x = new DialectAtlas();
        int[] folk = {1, 19, 11, 19};
        for (int v = 0; v < 4; v++) {
            x.village(0, folk[v]);
            if (v > 0) {
                x.road(0, v, 9);
            }
        }
        Given.form(x, "a");
        Given.form(x, "b");
        Given.form(x, "c");
        Given.say(x, 1, 0, 2);
        Given.say(x, 2, 0, 1);
        check.due("19 by 10 is as much as 11 by 10", 1, x.foretold(0, 0));
        x.road(0, 1, 8);
        check.due("19 by 9 is more", 2, x.foretold(0, 0));
        x.road(0, 1, 9);
        Given.say(x, 3, 0, 2);
        x.road(0, 2, 3);
        check.due("1 and 1, though 38 by 10 is more than 11 by 4", 1, x.foretold(0, 0));
    }

    @Says(promise = 27, term = 5, text = "each cut; of several the least.")
    static void theLeastForetold(Check check) {
        DialectAtlas x = line(99, 50, 50, 50);
        Given.say(x, 2, 0, 2);
        check.due("a sum of 0", 2, x.foretold(0, 0));
        Given.say(x, 1, 0, 1);
        check.due("two sums of 0", 1, x.foretold(0, 0));
    }

    @Says(promise = 27, text = "FORETOLD for a VILLAGE and a THING, as KNOWN TODAY.")
    static void foretoldOfToday(Check check) {
        DialectAtlas x = line(1, 1, 1);
        Given.say(x, 0, 5, 1);
        check.due("of that thing", 1, x.foretold(1, 5));
        check.due("of another thing", Check.NONE, x.foretold(1, 4));
        x.day(9);
        x.answer(0, 5, 0);
        check.due("told today", 0, x.foretold(1, 5));
        x.take(1);
        check.due("taken back today", 1, x.foretold(1, 5));
    }

    @Says(promise = 27, text = "BEYOND.")
    static void foretoldOutside(Check check) {
        check.due("no villages at all", Check.BEYOND, new DialectAtlas().foretold(0, 0));
        DialectAtlas x = Given.sayers("a");
        check.due("village 1", Check.BEYOND, x.foretold(1, 0));
        check.due("village -1", Check.BEYOND, x.foretold(-1, 0));
        check.due("thing 6", Check.BEYOND, x.foretold(0, 6));
        check.due("thing -1", Check.BEYOND, x.foretold(0, -1));
    }

    @Says(promise = 27, text = "NONE: no FORM.")
    static void noFormIsForetold(Check check) {
        DialectAtlas x = line(1, 1, 1, 1);
        check.due("nobody says anything", Check.NONE, x.foretold(0, 0));
        Given.say(x, 2, 0, 0);
        check.due("form 0 is one", 0, x.foretold(0, 0));
        x.road(1, 2, 0);
        check.due("all are cut", Check.NONE, x.foretold(0, 0));
    }

    @Says(promise = 28, term = 5, text = "A ROUND from a VILLAGE over a set of others (7 at most) and home")
    static void sevenAndHome(Check check) {
        DialectAtlas x = Given.line(3, 1, 1, 1, 1, 1, 1, 1, 1);
        order(check, x, 0, 0b11111110, 42, 1, 2, 3, 4, 5, 6, 7);
        order(check, x, 7, 0b1111111, 42, 0, 1, 2, 3, 4, 5, 6);
        order(check, x, 5, 0b10000, 6, 4);
        order(check, x, 3, 0, 0);
    }

    @Says(promise = 28, term = 5, text = "the least sum of WALKS")
    static void theLeastSumOfWalks(Check check) {
        DialectAtlas x = Given.villages(12);
        int[] around = {0, 4, 1, 5, 2, 3};
        for (int i = 0; i < 6; i++) {
            x.road(around[i], around[(i + 1) % 6], 10);
        }
        order(check, x, 0, 0b111110, 60, 3, 2, 5, 1, 4);
        order(check, x, 1, 0b111101, 60, 4, 0, 3, 2, 5);
        order(check, x, 0, 0b000110, 60, 1, 2);
    }

    @Says(promise = 28, term = 5, text = "of several the order that is the first as a row of VILLAGES.")
    static void theFirstOrder(Check check) {
        DialectAtlas star = Given.villages(12);
        for (int v = 1; v < 12; v++) {
            star.road(0, v, v);
        }
        order(check, star, 0, 0b111111100000, 112, 5, 6, 7, 8, 9, 10, 11);
        order(check, star, 4, 0b11101110, 56, 1, 2, 3, 5, 6, 7);
        order(check, star, 11, 0b1, 22, 0);
    }

    private static void order(Check check, DialectAtlas x, int home, int set, int sum, int... stops) {
        check.due("the sum from " + home, sum, x.round(home, set, -1));
        for (int i = 0; i < stops.length; i++) {
            check.due("stop " + i + " from " + home, stops[i], x.round(home, set, i));
        }
        check.due("one more from " + home, Check.NONE, x.round(home, set, stops.length));
    }

    @Says(promise = 28, text = "Of a ROUND from a VILLAGE over a set: what -1 the sum; else VILLAGE number what of the "
            + "order (from 0 on).")
    static void partsOfARound(Check check) {
        DialectAtlas x = Given.line(5, 1, 1, 1);
        check.due("the sum", 20, x.round(0, 6, -1));
        check.due("the first", 1, x.round(0, 6, 0));
        check.due("the second", 2, x.round(0, 6, 1));
        check.due("an empty set", 0, x.round(0, 0, -1));
    }

    @Says(promise = 28, text = "BEYOND: no such VILLAGE")
    static void noRoundFromNoVillage(Check check) {
        check.due("no villages at all", Check.BEYOND, new DialectAtlas().round(0, 0, -1));
        DialectAtlas x = Given.villages(9);
        check.due("village 9", Check.BEYOND, x.round(9, 0, -1));
        check.due("village -1", Check.BEYOND, x.round(-1, 0, -1));
        check.due("village 32, whose bit is that of 0", Check.BEYOND, x.round(32, 0, -1));
        check.due("the greatest int", Check.BEYOND, x.round(Integer.MAX_VALUE, 0, -1));
    }

    @Says(promise = 28, text = "or bits of others")
    static void noRoundOverOthers(Check check) {
        DialectAtlas x = Given.line(1, 1, 1, 1);
        check.due("bit 3", Check.BEYOND, x.round(0, 8, -1));
        check.due("bit 3 and one that is there", Check.BEYOND, x.round(0, 10, -1));
        check.due("bit 31", Check.BEYOND, x.round(0, Integer.MIN_VALUE, -1));
        check.due("all bits but home", Check.BEYOND, x.round(0, -2, -1));
        check.due("bit 2", 4, x.round(0, 4, -1));
    }

    @Says(promise = 28, text = "or home itself")
    static void noRoundOverHome(Check check) {
        DialectAtlas x = Given.line(1, 1, 1, 1);
        check.due("home alone", Check.BEYOND, x.round(2, 4, -1));
        check.due("home and others", Check.BEYOND, x.round(0, 7, -1));
    }

    @Says(promise = 28, text = "or what.")
    static void noOtherPartOfARound(Check check) {
        DialectAtlas x = Given.line(1, 1, 1);
        check.due("what -2", Check.BEYOND, x.round(0, 2, -2));
        check.due("the least int", Check.BEYOND, x.round(0, 2, Integer.MIN_VALUE));
    }

    @Says(promise = 28, text = "SIZE: there are more than 7.")
    static void tooManyStops(Check check) {
        DialectAtlas x = Given.line(1, 1, 1, 1, 1, 1, 1, 1, 1, 1, 1, 1, 1);
        check.due("seven", 14, x.round(0, 0b11111110, -1));
        check.due("eight", Check.SIZE, x.round(0, 0b111111110, -1));
        check.due("eleven", Check.SIZE, x.round(0, 0b111111111110, 0));
    }

    @Says(promise = 28, text = "CUT: one is.")
    static void oneStopIsCut(Check check) {
        DialectAtlas x = Given.line(4, 1, 1, 1);
        x.road(1, 2, 0);
        check.due("joined", 8, x.round(0, 2, -1));
        check.due("one of two", Check.CUT, x.round(0, 6, -1));
        check.due("the only one", Check.CUT, x.round(2, 1, 0));
        check.due("one that isn't in the set does not count", 8, x.round(1, 1, -1));
        check.due("an empty set has none", 0, x.round(2, 0, -1));
    }

    @Says(promise = 28, text = "NONE: there are not so many.")
    static void notSoManyStops(Check check) {
        DialectAtlas x = Given.line(1, 1, 1, 1, 1, 1, 1, 1, 1);
        check.due("the last of two", 2, x.round(0, 6, 1));
        check.due("a third of two", Check.NONE, x.round(0, 6, 2));
        check.due("the first of none", Check.NONE, x.round(0, 0, 0));
        check.due("an eighth of seven", Check.NONE, x.round(0, 0b11111110, 7));
        check.due("the greatest int", Check.NONE, x.round(0, 6, Integer.MAX_VALUE));
    }

    @Says(promise = 29, term = 5, text = "SPREAD of a FORM: a set of VILLAGES has it; in each year each other one takes it")
    static void takenYearByYear(Check check) {
        DialectAtlas x = Given.line(1, 1, 1, 1, 1, 1);
        check.due("no years", 1, x.spread(1, 0));
        check.due("one year", 3, x.spread(1, 1));
        check.due("two years", 7, x.spread(1, 2));
        check.due("both ways at once", 14, x.spread(4, 1));
        check.due("all keep it", 31, x.spread(1, 30));
    }

    @Says(promise = 29, term = 5, text = "if the FOLK of those with it, to which it has a ROAD, are as many as those of "
            + "all others to which it has a ROAD, or more")
    static void asManyFolkOrMore(Check check) {
        DialectAtlas x = Given.villages(1);
        int[] folk = {10, 20, 30, 999};
        for (int v = 0; v < 4; v++) {
            x.village(0, folk[v]);
            if (v < 3) {
                x.road(0, 1 + v, 9);
            }
        }
        check.due("10 and 20 against 30", 0b00111, x.spread(0b00110, 1));
        check.due("30 against 10 and 20", 0b01001, x.spread(0b01000, 1));
        check.due("20 against 10 and 30", 0b00100, x.spread(0b00100, 30));
        check.due("one without a road does not count", 0b11001, x.spread(0b11000, 1));
        x.road(0, 4, 1);
        check.due("with one it does", 0b01000, x.spread(0b01000, 1));
        x.road(0, 4, 0);
        x.village(0, 1);
        x.road(0, 5, 1);
        check.due("30 against 31", 0b01000, x.spread(0b01000, 1));
    }

    @Says(promise = 29, term = 5, text = "(and one at least has it).")
    static void oneAtLeastHasIt(Check check) {
        DialectAtlas x = Given.villages(3);
        x.road(0, 1, 1);
        check.due("nobody has it", 0, x.spread(0, 30));
        check.due("0 against 0, without a road", 3, x.spread(1, 30));
        check.due("it keeps it without a road", 4, x.spread(4, 30));
    }

    @Says(promise = 29, text = "VILLAGES that have a FORM behind n years (0 to 30) of SPREAD from a set on.")
    static void behindNYears(Check check) {
        DialectAtlas x = Given.line(1, 1, 1, 1, 1, 1, 1, 1, 1, 1, 1, 1, 1);
        check.due("ten years", 0b11111111111, x.spread(1, 10));
        check.due("eleven years", 0b111111111111, x.spread(1, 11));
        check.due("thirty years", 0b111111111111, x.spread(0b100000000000, 30));
        check.due("no years", 0b101, x.spread(0b101, 0));
        check.due("no villages", 0, new DialectAtlas().spread(0, 30));
    }

    @Says(promise = 29, text = "BEYOND: bits of others")
    static void noSpreadFromOthers(Check check) {
        check.due("no villages at all", Check.BEYOND, new DialectAtlas().spread(1, 0));
        DialectAtlas x = Given.villages(4);
        check.due("bit 4", Check.BEYOND, x.spread(16, 0));
        check.due("bit 31", Check.BEYOND, x.spread(Integer.MIN_VALUE, 0));
        check.due("all bits", Check.BEYOND, x.spread(-1, 0));
        check.due("all that are there", 15, x.spread(15, 0));
    }

    @Says(promise = 29, text = ", n.")
    static void noSpreadForSuchYears(Check check) {
        DialectAtlas x = Given.villages(1);
        check.due("-1", Check.BEYOND, x.spread(1, -1));
        check.due("31", Check.BEYOND, x.spread(1, 31));
        check.due("the greatest int", Check.BEYOND, x.spread(1, Integer.MAX_VALUE));
        check.due("30", 1, x.spread(1, 30));
    }

    @Says(promise = 30, term = 5,
            text = "SEEDS for n years: a set of VILLAGES (3 at most) from which on all have it behind n years")
    static void threeSeedsAtMost(Check check) {
        DialectAtlas x = Given.villages(3);
        check.due("three alone", 7, x.seeds(30));
        x.village(0, 1);
        check.due("four alone", Check.NONE, x.seeds(30));
        x.road(2, 3, 1);
        check.due("two of them joined", 7, x.seeds(1));
        check.due("at once", Check.NONE, x.seeds(0));
    }

    @Says(promise = 30, term = 5, text = "the fewest")
    static void theFewestSeeds(Check check) {
        DialectAtlas x = Given.line(1, 1, 1, 1, 1, 1, 1, 1);
        check.due("in 3 years one, 8, rather than two, 3", 8, x.seeds(3));
        check.due("in 2 years two", 0b10001, x.seeds(2));
        check.due("in 1 year three", 0b100101, x.seeds(1));
        check.due("no villages need none", 0, new DialectAtlas().seeds(0));
    }

    @Says(promise = 30, term = 5, text = ", of several the least as a number.")
    static void theLeastSeeds(Check check) {
        DialectAtlas x = Given.line(1, 1, 1, 1, 1, 1, 1, 1);
        check.due("in 30 years any", 1, x.seeds(30));
        check.due("in 6 years the ends or more", 1, x.seeds(6));
        check.due("in 5 years not the ends", 2, x.seeds(5));
        check.due("in 4 years", 4, x.seeds(4));
    }

    @Says(promise = 30, text = "SEEDS for n years (0 to 30), as bits.")
    static void seedsAsBits(Check check) {
        DialectAtlas x = Given.villages(1);
        check.due("at once", 1, x.seeds(0));
        check.due("in 30 years", 1, x.seeds(30));
        check.due("two alone", 3, Given.villages(2).seeds(0));
        DialectAtlas twelve = Given.line(1, 1, 1, 1, 1, 1, 1, 1, 1, 1, 1, 1, 1);
        check.due("twelve in 2 years", 0b1000010001, twelve.seeds(2));
    }

    @Says(promise = 30, text = "BEYOND.")
    static void noSeedsForSuchYears(Check check) {
        DialectAtlas x = Given.villages(1);
        check.due("-1", Check.BEYOND, x.seeds(-1));
        check.due("31", Check.BEYOND, x.seeds(31));
        check.due("the greatest int", Check.BEYOND, x.seeds(Integer.MAX_VALUE));
    }

    @Says(promise = 30, text = "NONE: there is no such set.")
    static void noSuchSeeds(Check check) {
        DialectAtlas x = Given.line(1, 1, 1, 1, 1, 1, 1, 1, 1, 1, 1, 1, 1);
        check.due("twelve in a year", Check.NONE, x.seeds(1));
        check.due("twelve at once", Check.NONE, x.seeds(0));
        check.due("twelve alone", Check.NONE, Given.villages(12).seeds(30));
    }
}
