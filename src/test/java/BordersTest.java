/** Promises 22 to 25: borders, distances, dialects, and whether a sheet proves them. */
public final class BordersTest {
    public static void main(String[] args) throws IllegalAccessException {
        Sentences.run(BordersTest.class);
    }

    @Says(promise = 22, term = 4, text = "BORDER of two FORMS of a THING, as KNOWN on a day: DIRECTIONS 0 to 7 are "
            + "(1, 0), (0, 1), (1, 1), (1, -1), (2, 1), (1, 2), (2, -1), (1, -2).")
    static void eachDirection(Check check) {
        // Each of these can be parted without a lie by one direction alone.
        border(check, "1 0", 0, 0, 6, 0, new int[][] {{5, 0, 1}, {6, 0, 2}});
        border(check, "0 1", 0, 1, 99, 0, new int[][] {{7, 99, 2}, {7, 98, 1}});
        border(check, "1 1", 0, 2, 10, 0,
                new int[][] {{0, 9, 1}, {9, 0, 1}, {1, 9, 2}, {9, 1, 2}, {0, 10, 2}, {10, 0, 2}});
        border(check, "1 -1", 0, 3, -20, 0, new int[][] {{0, 21, 1}, {50, 71, 1}, {1, 20, 2}, {51, 70, 2}});
        border(check, "2 1", 0, 4, 81, 0,
                new int[][] {{0, 80, 1}, {20, 40, 1}, {40, 0, 1}, {0, 81, 2}, {20, 41, 2}, {40, 1, 2}});
        border(check, "1 2", 0, 5, 81, 0,
                new int[][] {{80, 0, 1}, {40, 20, 1}, {0, 40, 1}, {81, 0, 2}, {41, 20, 2}, {1, 40, 2}});
        border(check, "2 -1", 0, 6, -10, 1,
                new int[][] {{0, 10, 1}, {20, 50, 1}, {40, 90, 1}, {0, 11, 2}, {20, 51, 2}, {40, 91, 2}});
        border(check, "1 -2", 0, 7, 11, 0,
                new int[][] {{10, 0, 1}, {50, 20, 1}, {90, 40, 1}, {11, 0, 2}, {51, 20, 2}, {91, 40, 2}});
    }

    @Says(promise = 22, term = 4, text = "By a DIRECTION (a, b), a limit t (-200 to 300)")
    static void theLeastLimit(Check check) {
        border(check, "no villages", 0, 0, -200, 0, new int[0][]);
        border(check, "all say the second one", 0, 0, -200, 0, new int[][] {{0, 0, 2}, {99, 99, 2}});
        border(check, "just above the least x", 0, 0, 1, 0, new int[][] {{0, 0, 1}, {99, 0, 2}});
        border(check, "just at the greatest x", 0, 0, 99, 0, new int[][] {{98, 0, 1}, {99, 0, 2}});
        border(check, "near the greatest of 2 x and y", 0, 4, 292, 0,
                new int[][] {{96, 99, 1}, {97, 97, 1}, {98, 95, 1}, {97, 98, 2}, {98, 96, 2}, {99, 94, 2}});
        border(check, "near the least of x less 2 y", 0, 7, -192, 0,
                new int[][] {{1, 97, 1}, {3, 98, 1}, {5, 99, 1}, {2, 97, 2}, {4, 98, 2}, {6, 99, 2}});
    }

    @Says(promise = 22, term = 4, text = "and a side: VILLAGES with a x + b y below t are on its side 0, others on its side 1")
    static void belowTheLimitIsSideNull(Check check) {
        border(check, "the first below", 0, 0, 6, 0, new int[][] {{5, 0, 1}, {6, 0, 2}});
        border(check, "the second below", 0, 0, 6, 1, new int[][] {{5, 0, 2}, {6, 0, 1}});
    }

    @Says(promise = 22, term = 4, text = "those on the told side ought to say the first FORM, others the second one.")
    static void theToldSideSaysTheFirst(Check check) {
        border(check, "all say the first one", 0, 0, -200, 1, new int[][] {{1, 1, 1}, {9, 9, 1}});
        border(check, "all say the second one", 0, 0, -200, 0, new int[][] {{1, 1, 2}, {9, 9, 2}});
        DialectAtlas x = Given.sayers("a", "b", "b");
        check.due("side for a and b", 0, x.border(0, 0, 1, 3));
        check.due("side for b and a", 1, x.border(0, 1, 0, 3));
    }

    @Says(promise = 22, term = 4, text = "LIES: FOLK of all VILLAGES that say the other one of both.")
    static void liesAreFolk(Check check) {
        border(check, "4 against 7", 4, 0, -200, 0, new int[][] {{3, 3, 1, 4}, {3, 3, 2, 7}});
        border(check, "7 against 4", 4, 0, -200, 1, new int[][] {{3, 3, 1, 7}, {3, 3, 2, 4}});
        border(check, "two that lie together", 10, 0, -200, 0,
                new int[][] {{3, 3, 1, 4}, {3, 3, 1, 6}, {3, 3, 2, 11}});
        border(check, "another form does not count", 0, 0, 1, 0, new int[][] {{0, 0, 1}, {0, 0, 3, 999}, {9, 0, 2}});
        border(check, "none at all does not count", 0, 0, 1, 0, new int[][] {{0, 0, 1}, {0, 0, 0, 999}, {9, 0, 2}});
        int[][] most = new int[12][];
        for (int v = 0; v < 12; v++) {
            most[v] = new int[] {50, 50, 1 + v % 2, 999};
        }
        border(check, "the most lies", 6 * 999, 0, -200, 0, most);
    }

    @Says(promise = 22, term = 4, text = "THE BORDER has the least LIES")
    static void theLeastLies(Check check) {
        border(check, "a cross", 3, 3, 1, 0, new int[][] {{0, 0, 1, 5}, {9, 9, 1, 5}, {0, 9, 2, 3}, {9, 0, 2, 9}});
        border(check, "a later direction without lies", 0, 7, 11, 0,
                new int[][] {{10, 0, 1}, {50, 20, 1}, {90, 40, 1}, {11, 0, 2}, {51, 20, 2}, {91, 40, 2}});
    }

    @Says(promise = 22, term = 4, text = ", of several the least DIRECTION")
    static void theLeastDirection(Check check) {
        border(check, "by any", 0, 0, 6, 0, new int[][] {{5, 5, 1}, {9, 9, 2}});
        border(check, "by y or both", 0, 1, 6, 0, new int[][] {{5, 5, 1}, {5, 9, 2}});
    }

    @Says(promise = 22, term = 4, text = ", then t")
    static void theLeastLimitOfSeveral(Check check) {
        border(check, "just above the lower one", 0, 0, 4, 0, new int[][] {{3, 0, 1}, {8, 0, 2}});
        border(check, "a lesser t with the greater side", 1, 0, 2, 1,
                new int[][] {{1, 0, 2}, {5, 0, 1, 5}, {9, 0, 2}});
        border(check, "told in another order", 1, 0, 2, 1, new int[][] {{9, 0, 2}, {5, 0, 1, 5}, {1, 0, 2}});
    }

    @Says(promise = 22, term = 4, text = ", then side.")
    static void theLeastSide(Check check) {
        border(check, "both are the same", 1, 0, -200, 0, new int[][] {{3, 3, 1}, {3, 3, 2}});
        border(check, "none says either", 0, 0, -200, 0, new int[][] {{1, 1, 3}, {2, 2, 0}});
    }

    /** Villages as x, y, the form they say (0: none, 1 the first, 2 the second, 3 another one) and, perhaps, folk. */
    private static void border(Check check, String name, int lies, int direction, int t, int side, int[][] villages) {
        DialectAtlas x = new DialectAtlas();
        Given.form(x, "x");
        Given.form(x, "a");
        Given.form(x, "b");
        for (int[] v : villages) {
            int number = x.village(100 * v[0] + v[1], v.length > 3 ? v[3] : 1);
            if (v[2] > 0) {
                Given.say(x, number, 5, v[2] % 3);
            }
        }
        check.due("lies, " + name, lies, x.border(5, 1, 2, 0));
        check.due("direction, " + name, direction, x.border(5, 1, 2, 1));
        check.due("t, " + name, t, x.border(5, 1, 2, 2));
        check.due("side, " + name, side, x.border(5, 1, 2, 3));
        check.due("findings, " + name, 0, x.count(8));
    }

    @Says(promise = 22,
            text = "Of THE BORDER of two FORMS of a THING, as KNOWN TODAY: what = 0 LIES, 1 DIRECTION, 2 t, 3 side.")
    static void theBorderOfToday(Check check) {
        DialectAtlas x = new DialectAtlas();
        Given.form(x, "a");
        Given.form(x, "b");
        Given.say(x, x.village(505, 3), 0, 0);
        Given.say(x, x.village(505, 4), 0, 1);
        Given.say(x, x.village(509, 2), 0, 0);
        int[] due = {3, 1, 6, 1};
        for (int what = 0; what < 4; what++) {
            check.due("what " + what, due[what], x.border(0, 0, 1, what));
        }
        x.day(1);
        x.take(1);
        check.due("the second form is taken back today", 0, x.border(0, 0, 1, 0));
        check.due("all say the first one then", 1, x.border(0, 0, 1, 3));
        x.undo();
        x.take(0);
        check.due("the first form is, in one village", 0, x.border(0, 0, 1, 0));
        check.due("it is above the other one then", 1, x.border(0, 0, 1, 3));
        x.take(2);
        check.due("in both", -200, x.border(0, 0, 1, 2));
        check.due("all say the second one then", 0, x.border(0, 0, 1, 3));
        check.due("of another thing", 0, x.border(1, 0, 1, 0));
    }

    @Says(promise = 22, text = "BEYOND: no such THING, FORM (either)")
    static void noBorderOutside(Check check) {
        check.due("no forms at all", Check.BEYOND, new DialectAtlas().border(0, 0, 1, 0));
        DialectAtlas x = Given.speaker("a", "b");
        check.due("thing 6", Check.BEYOND, x.border(6, 0, 1, 0));
        check.due("thing -1", Check.BEYOND, x.border(-1, 0, 1, 0));
        check.due("the first form is 2", Check.BEYOND, x.border(0, 2, 1, 0));
        check.due("the first form is -1", Check.BEYOND, x.border(0, -1, 1, 0));
        check.due("the second form is 2", Check.BEYOND, x.border(0, 0, 2, 0));
        check.due("the second form is -1", Check.BEYOND, x.border(0, 0, -1, 0));
    }

    @Says(promise = 22, text = ", or another what.")
    static void noOtherPartOfABorder(Check check) {
        DialectAtlas x = Given.speaker("a", "b");
        check.due("what 4", Check.BEYOND, x.border(0, 0, 1, 4));
        check.due("what -1", Check.BEYOND, x.border(0, 0, 1, -1));
        check.due("the greatest int", Check.BEYOND, x.border(0, 0, 1, Integer.MAX_VALUE));
    }

    @Says(promise = 22, text = "SIZE: they are one.")
    static void noBorderOfOneForm(Check check) {
        DialectAtlas x = Given.speaker("a", "b");
        check.due("form 0", Check.SIZE, x.border(0, 0, 0, 0));
        check.due("form 1", Check.SIZE, x.border(5, 1, 1, 3));
    }

    @Says(promise = 22, text = "(t may be below 0; no finding.)")
    static void limitsBelowNullAreNoFindings(Check check) {
        DialectAtlas x = Given.speaker("a", "b");
        check.due("t", -200, x.border(0, 0, 1, 2));
        check.due("findings", 0, x.count(8));
    }

    @Says(promise = 23, term = 4, text = "DISTANCE of two VILLAGES, as KNOWN on a day: FAR of what they say")
    static void distanceIsFar(Check check) {
        DialectAtlas x = Given.sayers("a", "e", "aaaaaaaa", "zzzzzzzz");
        check.due("a and e", 1, x.distance(0, 1, 0));
        check.due("eight others", 24, x.distance(2, 3, 0));
        check.due("the other way about", 17, x.distance(3, 0, 0));
    }

    @Says(promise = 23, term = 4, text = "over all THINGS of which both say one, together.")
    static void distanceOverAllThings(Check check) {
        DialectAtlas x = Given.villages(2);
        x.asked(0, 0, 1);
        x.asked(1, 0, 1);
        Given.form(x, "a");
        Given.form(x, "zz");
        check.due("nothing is said", 0, x.distance(0, 1, 0));
        x.answer(0, 0, 0);
        check.due("by one alone", 0, x.distance(0, 1, 0));
        x.answer(1, 1, 1);
        check.due("of other things", 0, x.distance(0, 1, 0));
        for (int thing = 0; thing <= 5; thing++) {
            x.answer(0, thing, 0);
            x.answer(1, thing, 1);
        }
        check.due("of all six", 30, x.distance(0, 1, 0));
    }

    @Says(promise = 23, text = "DISTANCE of two VILLAGES, as KNOWN on a day.")
    static void distanceOnADay(Check check) {
        DialectAtlas x = Given.sayers("a", "e");
        x.day(3);
        Given.form(x, "zz");
        x.answer(1, 0, 2);
        check.due("day 0", 1, x.distance(0, 1, 0));
        check.due("day 2", 1, x.distance(0, 1, 2));
        check.due("day 3", 5, x.distance(0, 1, 3));
        check.due("day 999", 5, x.distance(1, 0, 999));
        check.due("to itself", 0, x.distance(1, 1, 3));
    }

    @Says(promise = 23, text = "BEYOND.")
    static void noDistanceOutside(Check check) {
        check.due("no villages at all", Check.BEYOND, new DialectAtlas().distance(0, 0, 0));
        DialectAtlas x = Given.villages(2);
        check.due("the first is 2", Check.BEYOND, x.distance(2, 0, 0));
        check.due("the first is -1", Check.BEYOND, x.distance(-1, 0, 0));
        check.due("the second is 2", Check.BEYOND, x.distance(0, 2, 0));
        check.due("the second is -1", Check.BEYOND, x.distance(0, -1, 0));
        check.due("day 1000", Check.BEYOND, x.distance(0, 1, 1000));
        check.due("day -1", Check.BEYOND, x.distance(0, 1, -1));
        check.due("the greatest int as a day", Check.BEYOND, x.distance(0, 1, Integer.MAX_VALUE));
    }

    @Says(promise = 24, term = 4, text = "DIALECTS: ways to part all VILLAGES (10 at most) into k or fewer (1 to 4)")
    static void kDialectsOrFewer(Check check) {
        String[] five = {"aaaaaaaa", "ffffffff", "kkkkkkkk", "pppppppp", "uuuuuuuu"};
        parting(check, Given.sayers(five), 1, 245, 0, 0, 0, 0, 0);
        parting(check, Given.sayers(five), 2, 106, 0, 0, 0, 1, 1);
        parting(check, Given.sayers(five), 3, 63, 0, 0, 1, 1, 2);
        parting(check, Given.sayers(five), 4, 44, 0, 0, 1, 2, 3);
        parting(check, Given.sayers("a", "kfk"), 4, 10, 0, 1);
        parting(check, Given.sayers("aaaa", "zzzz", "ffff", "pppp", "aaaa", "zzzz", "ffff", "pppp", "aaab", "zzzz"), 4,
                22, 0, 1, 2, 3, 0, 1, 2, 3, 0, 1);
    }

    @Says(promise = {24, 25}, term = 4,
            text = "numbers, VILLAGE 0 in DIALECT 0, each next one in one that is there or the next number.")
    static void numbersOfDialects(Check check) {
        parting(check, Given.sayers("zzzz", "aaaa", "zzzz"), 4, 10, 0, 1, 0);
        parting(check, Given.sayers("pppp", "zzzz", "aaaa"), 4, 15, 0, 1, 2);
        DialectAtlas x = Given.villages(3);
        Given.sheet(x, 0, 1, 0, 0);
        check.due("village 0 in dialect 1", 0, x.proves(0, 99));
        Given.sheet(x, 0, 0, 2, 1);
        check.due("a number is left out", 1, x.proves(0, 99));
        Given.sheet(x, 0, 0, 1, 2);
        check.due("each in the next number", -1, x.proves(0, 99));
        Given.sheet(x, 0, 0, 1, 0);
        check.due("in one that is there", -1, x.proves(0, 99));
    }

    @Says(promise = 24, term = 4, text = "THE DIALECTS have the least sum of DISTANCES of all pairs in one DIALECT")
    static void theLeastSumOfPairs(Check check) {
        parting(check, Given.sayers("a", "e", "z"), 1, 12, 0, 0, 0);
        parting(check, Given.sayers("a", "e", "z"), 2, 11, 0, 0, 1);
        parting(check, Given.sayers("a", "e", "z"), 4, 11, 0, 0, 1);
        parting(check, Given.sayers("", "aaaa", "zzzz", "", "aaaa"), 4, 10, 0, 0, 1, 0, 0);
        // 3 for pf and kf, 2 for zf and z.
        parting(check, Given.sayers("zzk", "zf", "pf", "a", "kf", "z"), 4, 25, 0, 1, 2, 3, 2, 1);
    }

    @Says(promise = 24, term = 4, text = "and 5 for each DIALECT")
    static void fiveForEach(Check check) {
        parting(check, Given.sayers(""), 3, 5, 0);
        parting(check, Given.sayers("aa", "zz"), 4, 10, 0, 1);
        parting(check, Given.sayers("aa", "ez"), 4, 9, 0, 0);
    }

    @Says(promise = 24, term = 4, text = "of several the first as a row of numbers.")
    static void theFirstRow(Check check) {
        parting(check, Given.sayers("a", "kf"), 4, 10, 0, 0);
        // The last is as far from the one as from the other.
        parting(check, Given.sayers("aaaa", "zzzz", "aazz"), 2, 16, 0, 1, 0);
    }

    /** The row of numbers must also be one that a sheet proves, with just that sum. */
    private static void parting(Check check, DialectAtlas x, int k, int sum, int... row) {
        check.due("the sum with k " + k, sum, x.dialects(k, -1));
        for (int v = 0; v < row.length; v++) {
            check.due("the dialect of " + v + " with k " + k, row[v], x.dialects(k, v));
        }
        Given.sheet(x, 0, row);
        check.due("a sheet proves its sum", -1, x.proves(0, sum));
        check.due("and no less", 100, x.proves(0, sum - 1));
    }

    @Says(promise = 24, text = "Of THE DIALECTS, as KNOWN TODAY, k or fewer: what -1 the sum")
    static void theSumOfToday(Check check) {
        DialectAtlas x = Given.sayers("aa", "zz");
        check.due("in two", 10, x.dialects(4, -1));
        check.due("in one", 11, x.dialects(1, -1));
        x.day(1);
        x.take(0);
        check.due("one is taken back today", 5, x.dialects(4, -1));
        check.due("the least k", 5, x.dialects(1, -1));
    }

    @Says(promise = 24, text = "; else the DIALECT of a VILLAGE.")
    static void theDialectOfAVillage(Check check) {
        DialectAtlas x = Given.sayers("aa", "zz", "aa", "zz");
        int[] due = {0, 1, 0, 1};
        for (int v = 0; v < 4; v++) {
            check.due("village " + v, due[v], x.dialects(2, v));
            check.due("village " + v + " with k 1", 0, x.dialects(1, v));
        }
    }

    @Says(promise = 24, text = "BEYOND: k")
    static void noSuchK(Check check) {
        DialectAtlas x = Given.villages(1);
        check.due("k 0", Check.BEYOND, x.dialects(0, -1));
        check.due("k 5", Check.BEYOND, x.dialects(5, -1));
        check.due("k -1", Check.BEYOND, x.dialects(-1, -1));
        check.due("the greatest int", Check.BEYOND, x.dialects(Integer.MAX_VALUE, -1));
        check.due("k 1", 5, x.dialects(1, -1));
        check.due("k 4", 5, x.dialects(4, -1));
    }

    @Says(promise = 24, text = "or no such VILLAGE.")
    static void noDialectOfNoVillage(Check check) {
        DialectAtlas x = Given.villages(2);
        check.due("village 2", Check.BEYOND, x.dialects(1, 2));
        check.due("-2", Check.BEYOND, x.dialects(1, -2));
        check.due("the greatest int", Check.BEYOND, x.dialects(1, Integer.MAX_VALUE));
        check.due("the least int", Check.BEYOND, x.dialects(1, Integer.MIN_VALUE));
        check.due("village 1", 0, x.dialects(1, 1));
    }

    @Says(promise = 24, text = "NONE: there are no VILLAGES.")
    static void noVillagesToPart(Check check) {
        DialectAtlas x = new DialectAtlas();
        check.due("the sum", Check.NONE, x.dialects(1, -1));
        check.due("with k 4", Check.NONE, x.dialects(4, -1));
        x.village(0, 1);
        check.due("with one", 5, x.dialects(1, -1));
    }

    @Says(promise = 24, text = "SIZE: there are more than 10.")
    static void tooManyVillagesToPart(Check check) {
        DialectAtlas x = Given.villages(10);
        check.due("ten", 5, x.dialects(4, -1));
        check.due("the last of ten", 0, x.dialects(4, 9));
        x.village(0, 1);
        check.due("eleven", Check.SIZE, x.dialects(4, -1));
        check.due("the last of eleven", Check.SIZE, x.dialects(4, 10));
        x.village(0, 1);
        check.due("twelve", Check.SIZE, x.dialects(1, 0));
    }

    @Says(promise = 25, text = "Whether a sheet's row of DIALECTS, one for each VILLAGE, has v at most as its sum, "
            + "as KNOWN TODAY: -1 (no finding): it has")
    static void itHasVAtMost(Check check) {
        DialectAtlas x = Given.sayers("a", "e", "z", "z", "a");
        Given.sheet(x, 3, 0, 0, 0, 0, 0);
        // All in one: a e z z a has 1 + 3 + 3 + 0 + 3 + 3 + 1 + 0 + 3 + 3 of distances.
        check.due("just v", -1, x.proves(3, 25));
        check.due("below v", -1, x.proves(3, Integer.MAX_VALUE));
        Given.sheet(x, 3, 0, 0, 1, 1, 0);
        check.due("in two", -1, x.proves(3, 12));
        check.due("no finding is counted", 0, x.count(8));
        x.day(1);
        x.take(1);
        check.due("one is taken back today", -1, x.proves(3, 10));
        DialectAtlas none = new DialectAtlas();
        none.sheet(0, 8, 0);
        check.due("no villages, no numbers", -1, none.proves(0, 0));
    }

    @Says(promise = 25, text = "else, of these the first: the place of the first number, of as many as there are "
            + "VILLAGES, that can't stand there")
    static void theFirstThatCannotStandThere(Check check) {
        DialectAtlas x = Given.villages(4);
        Given.sheet(x, 0, 1, 9, 0, 0);
        check.due("village 0 is in dialect 0", 0, x.proves(0, 99));
        Given.sheet(x, 0, 0, 2, 9, 0);
        check.due("2 behind 0", 1, x.proves(0, 99));
        Given.sheet(x, 0, 0, 1, 2, -1);
        check.due("below 0", 3, x.proves(0, 99));
        Given.sheet(x, 0, 0, 0, 9);
        check.due("told ahead of too few", 2, x.proves(0, 99));
        Given.sheet(x, 0, 0, 0, 0, 9, 0);
        check.due("told ahead of too many", 3, x.proves(0, 99));
        Given.sheet(x, 0, 0, 0, 0, 9);
        check.due("told ahead of the sum", 3, x.proves(0, 0));
        Given.sheet(x, 0, 0, 0, 0, 0, 9);
        check.due("one behind the villages is not looked at", 5, x.proves(0, 99));
    }

    @Says(promise = 25, text = "(of 4 DIALECTS or fewer)")
    static void noFifthDialect(Check check) {
        DialectAtlas x = Given.villages(6);
        Given.sheet(x, 0, 0, 1, 2, 3, 4, 0);
        check.due("a fifth", 4, x.proves(0, 99));
        Given.sheet(x, 0, 0, 1, 2, 3, 3, 0);
        check.due("four", -1, x.proves(0, 20));
    }

    @Says(promise = 25, text = "how many it has, if that isn't the number of VILLAGES")
    static void notOneForEachVillage(Check check) {
        DialectAtlas x = Given.villages(10);
        x.sheet(0, 8, 9);
        check.due("one too few", 9, x.proves(0, 99));
        x.sheet(0, 8, 11);
        check.due("one too many", 11, x.proves(0, 99));
        check.due("told ahead of the sum", 11, x.proves(0, 0));
        x.sheet(0, 8, 0);
        check.due("none", 0, x.proves(0, 99));
        x.sheet(0, 8, 20);
        check.due("the most", 20, x.proves(0, 99));
        x.sheet(0, 8, 10);
        check.due("as many", -1, x.proves(0, 99));
        DialectAtlas none = new DialectAtlas();
        Given.sheet(none, 0, 9, 9, 9);
        check.due("numbers without villages", 3, none.proves(0, 0));
    }

    @Says(promise = 25, text = "100, the sum being above v.")
    static void theSumIsAbove(Check check) {
        DialectAtlas x = Given.sayers("aa", "zz");
        Given.sheet(x, 0, 0, 0);
        check.due("by 1", 100, x.proves(0, 10));
        check.due("v below 0", 100, x.proves(0, Integer.MIN_VALUE));
        DialectAtlas none = new DialectAtlas();
        none.sheet(0, 8, 0);
        check.due("no villages have a sum of 0", 100, none.proves(0, -1));
    }

    @Says(promise = 25, text = "BEYOND: no such sheet.")
    static void nothingIsProvedWithoutASheet(Check check) {
        DialectAtlas x = Given.villages(1);
        check.due("sheet 4", Check.BEYOND, x.proves(4, 0));
        check.due("sheet -1", Check.BEYOND, x.proves(-1, 0));
        check.due("the greatest int", Check.BEYOND, x.proves(Integer.MAX_VALUE, 0));
        x.sheet(3, 8, 1);
        check.due("sheet 3", -1, x.proves(3, 5));
    }

    @Says(promise = 25, text = "MISSING.")
    static void aMissingSheetProvesNothing(Check check) {
        DialectAtlas x = Given.villages(1);
        check.due("at first", Check.MISSING, x.proves(0, 5));
        x.sheet(0, 8, 1);
        check.due("it is there", -1, x.proves(0, 5));
        x.sheet(0, 0, 0);
        check.due("missing again", Check.MISSING, x.proves(0, 5));
    }

    @Says(promise = 25, text = "SIZE: there are more than 10 VILLAGES.")
    static void tooManyVillagesToProve(Check check) {
        DialectAtlas x = Given.villages(10);
        x.sheet(0, 8, 10);
        check.due("ten", -1, x.proves(0, 5));
        x.village(0, 1);
        x.sheet(0, 8, 11);
        check.due("eleven", Check.SIZE, x.proves(0, 5));
    }
}
