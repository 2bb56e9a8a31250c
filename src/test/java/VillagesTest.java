/** Promises 1 to 5: a new object, villages, roads, walks, days. */
public final class VillagesTest {
    public static void main(String[] args) throws IllegalAccessException {
        Sentences.run(VillagesTest.class);
    }

    @Says(promise = 1, text = "No VILLAGES, THE ASKED, FORMS, ANSWERS")
    static void nothingIsThereAtFirst(Check check) {
        DialectAtlas x = new DialectAtlas();
        for (int what = 0; what <= 8; what++) {
            check.due("count(" + what + ")", 0, x.count(what));
        }
        check.due("village 0", Check.BEYOND, x.walk(0, 0));
        check.due("the first of the asked", Check.BEYOND, x.as(0, 0));
        check.due("form 0", Check.BEYOND, x.sound(0, -1));
        check.due("answer 0", Check.BEYOND, x.answerIs(0, 0));
        check.due("an act to undo", Check.NONE, x.undo());
        check.due("the tape's first byte", 1, x.feed(1, 'a'));
    }

    @Says(promise = 1, text = "TEXTS of no CHANGES")
    static void textsAreEmptyAtFirst(Check check) {
        DialectAtlas x = Given.speaker("abc");
        for (int t = 0; t < 4; t++) {
            check.due("changes of text " + t, 0, x.changes(t));
            check.due("a form stays as it is by text " + t, 3, x.becomes(0, t, -1));
        }
    }

    @Says(promise = 1, text = "day 0")
    static void theFirstDayIsNull(Check check) {
        DialectAtlas x = new DialectAtlas();
        check.due("today", 0, x.count(6));
        check.due("what it was", 0, x.day(999));
    }

    @Says(promise = 1, text = "sheets MISSING.")
    static void sheetsAreMissingAtFirst(Check check) {
        DialectAtlas x = new DialectAtlas();
        for (int s = 0; s < 4; s++) {
            check.due("sheet " + s, Check.MISSING, x.put(s, 0, 0));
        }
    }

    @Says(promise = 1, text = "No VILLAGES")
    static void objectsShareNothing(Check check) {
        DialectAtlas x = Given.villages(3);
        x.sheet(0, 8, 4);
        x.day(7);
        DialectAtlas other = new DialectAtlas();
        check.due("villages of another object", 0, other.count(0));
        check.due("day of another object", 0, other.count(6));
        check.due("sheet of another object", Check.MISSING, other.put(0, 0, 0));
    }

    @Says(promise = {2, 3}, term = 1, text = "VILLAGES 0, 1, .. (at most 12)")
    static void theTwelfthVillageIsOneOfThem(Check check) {
        DialectAtlas x = Given.villages(12);
        check.due("how many", 12, x.count(0));
        check.due("a road to the last", 0, x.road(0, 11, 1));
        check.due("a road to one behind it", Check.BEYOND, x.road(0, 12, 1));
    }

    @Says(promise = {2, 22}, term = 1, text = "are at places (x, y; 0 to 99 each)")
    static void placesAreXAndY(Check check) {
        // The limit of a border stands just above the place of the village that ought to say the first form.
        check.due("x of 99 and 100", 1, limit(99, 100));
        check.due("x of 9899 and 9999", 99, limit(9899, 9999));
        check.due("y of 0 and 1", 1, limit(0, 1));
        check.due("y of 9998 and 9999", 99, limit(9998, 9999));
        check.due("y of 1198 and 1199", 99, limit(1198, 1199));
    }

    private static int limit(int first, int second) {
        DialectAtlas x = new DialectAtlas();
        Given.form(x, "a");
        Given.form(x, "b");
        Given.say(x, x.village(first, 1), 0, 0);
        Given.say(x, x.village(second, 1), 0, 1);
        return x.border(0, 0, 1, 2);
    }

    @Says(promise = {2, 35}, term = 1, text = "with so many FOLK (1 to 999).")
    static void folkAreFromOneOn(Check check) {
        DialectAtlas x = new DialectAtlas();
        check.due("1", 0, x.village(0, 1));
        check.due("999", 1, x.village(0, 999));
        check.due("all folk", 1000, x.count(7));
    }

    @Says(promise = 2, text = "A VILLAGE: its number.")
    static void villagesAreNumbered(Check check) {
        DialectAtlas x = new DialectAtlas();
        for (int v = 0; v < 12; v++) {
            check.due("village " + v + " at one place with others", v, x.village(5, 5));
        }
    }

    @Says(promise = 2, text = "BEYOND: place (100 x and y)")
    static void noSuchPlace(Check check) {
        DialectAtlas x = new DialectAtlas();
        check.due("-1", Check.BEYOND, x.village(-1, 1));
        check.due("10000", Check.BEYOND, x.village(10000, 1));
        check.due("the least int", Check.BEYOND, x.village(Integer.MIN_VALUE, 1));
        check.due("the greatest int", Check.BEYOND, x.village(Integer.MAX_VALUE, 1));
        check.due("villages", 0, x.count(0));
        check.due("0", 0, x.village(0, 1));
        check.due("9999", 1, x.village(9999, 1));
    }

    @Says(promise = 2, text = "FOLK.")
    static void noSuchFolk(Check check) {
        DialectAtlas x = new DialectAtlas();
        check.due("0", Check.BEYOND, x.village(0, 0));
        check.due("-1", Check.BEYOND, x.village(0, -1));
        check.due("1000", Check.BEYOND, x.village(0, 1000));
        check.due("the least int", Check.BEYOND, x.village(0, Integer.MIN_VALUE));
        check.due("the greatest int", Check.BEYOND, x.village(0, Integer.MAX_VALUE));
        check.due("villages", 0, x.count(0));
    }

    @Says(promise = 2, text = "FULL: there are 12.")
    static void noThirteenthVillage(Check check) {
        DialectAtlas x = Given.villages(11);
        check.due("the twelfth", 11, x.village(0, 1));
        check.due("a thirteenth", Check.FULL, x.village(0, 1));
        check.due("villages", 12, x.count(0));
        x.undo();
        check.due("the twelfth behind an undo", 11, x.village(0, 1));
    }

    @Says(promise = 3, term = 1, text = "ROADS between two of them have a LENGTH (1 to 99")
    static void lengthsAreFromOneOn(Check check) {
        DialectAtlas x = Given.villages(3);
        check.due("1", 0, x.road(0, 1, 1));
        check.due("99", 0, x.road(1, 2, 99));
        check.due("both", 100, x.walk(0, 2));
    }

    @Says(promise = {3, 35}, term = 1, text = "one at most between two).")
    static void oneRoadBetweenTwo(Check check) {
        DialectAtlas x = Given.villages(2);
        x.road(0, 1, 5);
        check.due("another one, told the other way about", 5, x.road(1, 0, 9));
        check.due("roads", 1, x.count(1));
        check.due("its length", 9, x.walk(0, 1));
    }

    @Says(promise = 3, text = "A ROAD of a LENGTH (0: none) between two VILLAGES: what it was (0: none).")
    static void roadsTellWhatWas(Check check) {
        DialectAtlas x = Given.villages(2);
        check.due("none to none", 0, x.road(0, 1, 0));
        check.due("none is no road", 0, x.count(1));
        check.due("a first one", 0, x.road(0, 1, 99));
        check.due("another length", 99, x.road(0, 1, 1));
        check.due("none again", 1, x.road(0, 1, 0));
        check.due("it is away", Check.CUT, x.walk(0, 1));
        check.due("it was none", 0, x.road(0, 1, 7));
    }

    @Says(promise = 3, text = "BEYOND.")
    static void noRoadToNoVillage(Check check) {
        check.due("no villages at all", Check.BEYOND, new DialectAtlas().road(0, 0, 1));
        DialectAtlas x = Given.villages(2);
        check.due("the second is 2", Check.BEYOND, x.road(0, 2, 1));
        check.due("the first is 2", Check.BEYOND, x.road(2, 0, 1));
        check.due("the second is -1", Check.BEYOND, x.road(0, -1, 1));
        check.due("the first is -1", Check.BEYOND, x.road(-1, 0, 1));
        check.due("the greatest ints", Check.BEYOND, x.road(Integer.MAX_VALUE, Integer.MAX_VALUE, 1));
        check.due("roads", 0, x.count(1));
    }

    @Says(promise = 3, text = "BEYOND.")
    static void noSuchLength(Check check) {
        DialectAtlas x = Given.villages(2);
        check.due("100", Check.BEYOND, x.road(0, 1, 100));
        check.due("-1", Check.BEYOND, x.road(0, 1, -1));
        check.due("the greatest int", Check.BEYOND, x.road(0, 1, Integer.MAX_VALUE));
        check.due("the least int", Check.BEYOND, x.road(0, 1, Integer.MIN_VALUE));
        check.due("roads", 0, x.count(1));
    }

    @Says(promise = 3, text = "SIZE: they are one.")
    static void noRoadToItself(Check check) {
        DialectAtlas x = Given.villages(3);
        check.due("a road", Check.SIZE, x.road(2, 2, 1));
        check.due("none", Check.SIZE, x.road(0, 0, 0));
        check.due("roads", 0, x.count(1));
    }

    @Says(promise = 4, term = 1,
            text = "The WALK of two VILLAGES is the least sum of LENGTHS from one to the other one by ROADS")
    static void walksAreTheLeast(Check check) {
        DialectAtlas x = Given.line(99, 1, 1, 1, 1, 1, 1, 1, 1, 1, 1, 1, 1);
        check.due("over all twelve", 11 * 99, x.walk(11, 0));
        x.road(0, 5, 98);
        check.due("a shorter way", 98 + 6 * 99, x.walk(0, 11));
        check.due("back along a road", 98 + 99, x.walk(0, 4));
        check.due("the other way about", 98 + 99, x.walk(4, 0));
        x.road(0, 2, 99);
        x.road(0, 1, 1);
        x.road(1, 2, 1);
        check.due("a road between both is longer", 2, x.walk(0, 2));
        x.road(0, 2, 2);
        check.due("as long", 2, x.walk(0, 2));
    }

    @Says(promise = 4, term = 1, text = "(0 to itself)")
    static void noWalkToItself(Check check) {
        DialectAtlas x = Given.villages(12);
        check.due("without roads", 0, x.walk(11, 11));
        x.road(0, 1, 4);
        check.due("with a road", 0, x.walk(0, 0));
    }

    @Says(promise = 4, term = 1, text = "without one they are CUT.")
    static void cutInTwo(Check check) {
        DialectAtlas x = Given.line(99, 1, 1, 1, 1);
        x.road(1, 2, 0);
        check.due("across", Check.CUT, x.walk(0, 3));
        check.due("on one side", 99, x.walk(0, 1));
        check.due("on the other side", 99, x.walk(3, 2));
    }

    @Says(promise = 4, text = "The WALK of two VILLAGES.")
    static void walkOfTwo(Check check) {
        DialectAtlas x = Given.line(7, 1, 1, 1);
        check.due("next to each other", 7, x.walk(0, 1));
        check.due("by one between", 14, x.walk(2, 0));
    }

    @Says(promise = 4, text = "BEYOND.")
    static void noWalkToNoVillage(Check check) {
        check.due("no villages at all", Check.BEYOND, new DialectAtlas().walk(0, 0));
        DialectAtlas x = Given.villages(2);
        check.due("the second is 2", Check.BEYOND, x.walk(0, 2));
        check.due("the first is 2", Check.BEYOND, x.walk(2, 0));
        check.due("the second is -1", Check.BEYOND, x.walk(0, -1));
        check.due("the first is -1", Check.BEYOND, x.walk(-1, 0));
        check.due("one that isn't there, to itself", Check.BEYOND, x.walk(2, 2));
    }

    @Says(promise = 4, text = "CUT.")
    static void cut(Check check) {
        DialectAtlas x = Given.villages(2);
        check.due("without a road", Check.CUT, x.walk(0, 1));
        x.road(0, 1, 1);
        check.due("with one", 1, x.walk(0, 1));
        x.road(0, 1, 0);
        check.due("without it again", Check.CUT, x.walk(1, 0));
    }

    @Says(promise = 5, term = 1, text = "TODAY is a day (0 to 999; 0 at first).")
    static void theLastDayIs999(Check check) {
        DialectAtlas x = new DialectAtlas();
        check.due("at first", 0, x.count(6));
        check.due("the last one", 0, x.day(999));
        check.due("today", 999, x.count(6));
    }

    @Says(promise = 5, text = "TODAY becomes a day that is not ahead of it: what it was.")
    static void daysDoNotGoBack(Check check) {
        DialectAtlas x = new DialectAtlas();
        check.due("0 stays", 0, x.day(0));
        check.due("a later one", 0, x.day(5));
        check.due("the same one", 5, x.day(5));
        check.due("one ahead of it", Check.BEYOND, x.day(4));
        check.due("it stays", 5, x.count(6));
        check.due("the next one", 5, x.day(6));
    }

    @Says(promise = 5, text = "BEYOND.")
    static void noSuchDay(Check check) {
        DialectAtlas x = new DialectAtlas();
        check.due("-1", Check.BEYOND, x.day(-1));
        check.due("1000", Check.BEYOND, x.day(1000));
        check.due("the least int", Check.BEYOND, x.day(Integer.MIN_VALUE));
        check.due("the greatest int", Check.BEYOND, x.day(Integer.MAX_VALUE));
        check.due("today", 0, x.count(6));
        x.day(999);
        check.due("1000, behind 999", Check.BEYOND, x.day(1000));
        check.due("0, behind 999", Check.BEYOND, x.day(0));
        check.due("999 stays", 999, x.day(999));
    }
}
