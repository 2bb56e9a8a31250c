import java.util.ArrayList;
import java.util.List;
import java.util.function.ToIntFunction;

/** What the Terms say of all findings: their numbers, which is told first, and that one changes nothing. */
public final class FindingsTest {
    private static final String ORDER = "Each act tells its findings in the order in which they are asked";

    public static void main(String[] args) throws IllegalAccessException {
        Sentences.run(FindingsTest.class);
    }

    @Says(promise = {4, 7, 8, 12, 25, 31, 34}, term = 0, text = "FINDINGS are answers below -99999: -100001 BEYOND, "
            + "-100002 MISSING, -100003 SIZE, -100004 KIND, -100005 FULL, -100006 NONE, -100007 TAKEN, -100008 CUT.")
    static void numbersOfFindings(Check check) {
        DialectAtlas x = new DialectAtlas();
        check.due("NONE", -100006, x.undo());
        check.due("BEYOND", -100001, x.walk(0, 0));
        check.due("MISSING", -100002, x.proves(0, 0));
        check.due("SIZE", -100003, x.sheet(0, 8, -1));
        x.village(0, 1);
        x.village(0, 1);
        check.due("CUT", -100008, x.walk(0, 1));
        x.asked(0, 0, 1);
        check.due("KIND", -100004, x.as(0, 1));
        Given.forms(x, 30);
        check.due("FULL", -100005, x.form(8, 0));
        x.take(x.answer(0, 0, 0));
        check.due("TAKEN", -100007, x.take(0));
        check.due("how many", 8, x.count(8));
    }

    @Says(promise = 2, term = 0, text = ORDER)
    static void orderOfVillage(Check check) {
        DialectAtlas x = Given.villages(12);
        check.due("BEYOND ahead of FULL, by its place", Check.BEYOND, x.village(10000, 1));
        check.due("BEYOND ahead of FULL, by its folk", Check.BEYOND, x.village(0, 0));
    }

    @Says(promise = 3, term = 0, text = ORDER)
    static void orderOfRoad(Check check) {
        DialectAtlas x = Given.villages(2);
        check.due("BEYOND ahead of SIZE, by its length", Check.BEYOND, x.road(1, 1, 100));
        check.due("BEYOND ahead of SIZE, by a length below 0", Check.BEYOND, x.road(1, 1, -1));
        check.due("BEYOND ahead of SIZE, by its villages", Check.BEYOND, x.road(2, 2, 1));
    }

    @Says(promise = 6, term = 0, text = ORDER)
    static void orderOfAsked(Check check) {
        DialectAtlas x = Given.villages(1);
        for (int i = 0; i < 20; i++) {
            x.asked(0, 0, 1);
        }
        check.due("BEYOND ahead of FULL, by its village", Check.BEYOND, x.asked(1, 0, 1));
        check.due("BEYOND ahead of FULL, by its kind", Check.BEYOND, x.asked(0, 4, 1));
        check.due("BEYOND ahead of FULL, by its trust", Check.BEYOND, x.asked(0, 0, 10));
    }

    @Says(promise = 7, term = 0, text = ORDER)
    static void orderOfAs(Check check) {
        DialectAtlas x = Given.speaker();
        check.due("BEYOND ahead of KIND", Check.BEYOND, x.as(0, 4));
        check.due("BEYOND ahead of KIND, by who it is", Check.BEYOND, x.as(1, 3));
    }

    @Says(promise = 8, term = 0, text = ORDER)
    static void orderOfForm(Check check) {
        DialectAtlas x = new DialectAtlas();
        Given.forms(x, 30);
        check.due("BEYOND ahead of FULL, by its size", Check.BEYOND, x.form(9, 0));
        check.due("BEYOND ahead of FULL, by a byte", Check.BEYOND, x.form(1, 26));
    }

    @Says(promise = 11, term = 0, text = ORDER)
    static void orderOfAnswer(Check check) {
        DialectAtlas x = Given.speaker("a");
        for (int i = 0; i < 60; i++) {
            x.answer(0, 0, 0);
        }
        check.due("BEYOND ahead of FULL, by who it is", Check.BEYOND, x.answer(1, 0, 0));
        check.due("BEYOND ahead of FULL, by its thing", Check.BEYOND, x.answer(0, 6, 0));
        check.due("BEYOND ahead of FULL, by its form", Check.BEYOND, x.answer(0, 0, 1));
    }

    @Says(promise = 14, term = 0, text = ORDER)
    static void orderOfSays(Check check) {
        DialectAtlas x = Given.villages(1);
        check.due("BEYOND ahead of NONE, by its day", Check.BEYOND, x.says(0, 0, 1000));
        check.due("BEYOND ahead of NONE, by its thing", Check.BEYOND, x.says(0, 6, 0));
    }

    @Says(promise = 16, term = 0, text = ORDER)
    static void orderOfFeed(Check check) {
        DialectAtlas x = new DialectAtlas();
        for (int i = 0; i < 10; i++) {
            x.feed(8, 0);
        }
        check.due("BEYOND ahead of FULL", Check.BEYOND, x.feed(9, 0));
        check.due("BEYOND ahead of FULL, and 0 is no room that there is", Check.BEYOND, x.feed(0, 0));
    }

    @Says(promise = 20, term = 0, text = ORDER)
    static void orderOfExplains(Check check) {
        DialectAtlas x = Given.villages(1);
        Given.form(x, "a");
        check.due("BEYOND ahead of MISSING, by its form", Check.BEYOND, x.explains(0, 0, 1));
        check.due("BEYOND ahead of MISSING, by its thing", Check.BEYOND, x.explains(0, 6, 0));
        check.due("MISSING ahead of NONE", Check.MISSING, x.explains(0, 0, 0));
    }

    @Says(promise = 22, term = 0, text = ORDER)
    static void orderOfBorder(Check check) {
        DialectAtlas x = Given.speaker("a", "b");
        check.due("BEYOND ahead of SIZE, by what", Check.BEYOND, x.border(0, 1, 1, 4));
        check.due("BEYOND ahead of SIZE, by its thing", Check.BEYOND, x.border(6, 1, 1, 0));
        check.due("BEYOND ahead of SIZE, by its forms", Check.BEYOND, x.border(0, 2, 2, 0));
    }

    @Says(promise = 24, term = 0, text = ORDER)
    static void orderOfDialects(Check check) {
        DialectAtlas x = new DialectAtlas();
        check.due("BEYOND ahead of NONE, by k", Check.BEYOND, x.dialects(5, -1));
        check.due("BEYOND ahead of NONE, by its village", Check.BEYOND, x.dialects(1, 0));
        DialectAtlas eleven = Given.villages(11);
        check.due("BEYOND ahead of SIZE, by k", Check.BEYOND, eleven.dialects(0, -1));
        check.due("BEYOND ahead of SIZE, by its village", Check.BEYOND, eleven.dialects(4, 11));
    }

    @Says(promise = 25, term = 0, text = ORDER)
    static void orderOfProves(Check check) {
        DialectAtlas x = Given.villages(11);
        check.due("BEYOND ahead of SIZE", Check.BEYOND, x.proves(4, 0));
        check.due("MISSING ahead of SIZE", Check.MISSING, x.proves(0, 0));
    }

    @Says(promise = {26, 27, 30}, term = 0, text = ORDER)
    static void orderOfNextForetoldAndSeeds(Check check) {
        DialectAtlas x = new DialectAtlas();
        check.due("next: BEYOND ahead of NONE", Check.BEYOND, x.next(6));
        x.village(0, 1);
        check.due("foretold: BEYOND ahead of NONE", Check.BEYOND, x.foretold(0, 6));
        check.due("seeds: BEYOND ahead of NONE", Check.BEYOND, Given.villages(4).seeds(31));
    }

    @Says(promise = 28, term = 0, text = ORDER)
    static void orderOfRound(Check check) {
        DialectAtlas x = Given.villages(9);
        check.due("BEYOND ahead of SIZE, by home", Check.BEYOND, x.round(0, 0b111111111, 0));
        check.due("BEYOND ahead of SIZE, by what", Check.BEYOND, x.round(0, 0b111111110, -2));
        check.due("BEYOND ahead of SIZE, by a bit", Check.BEYOND, x.round(0, 0b1011111110, 0));
        check.due("SIZE ahead of CUT and NONE", Check.SIZE, x.round(0, 0b111111110, 9));
        check.due("BEYOND ahead of CUT", Check.BEYOND, x.round(0, 2, -2));
        check.due("CUT ahead of NONE", Check.CUT, x.round(0, 2, 1));
    }

    @Says(promise = 31, term = 0, text = ORDER)
    static void orderOfSheet(Check check) {
        DialectAtlas x = new DialectAtlas();
        check.due("BEYOND by its sheet ahead of SIZE", Check.BEYOND, x.sheet(4, 8, -1));
        check.due("BEYOND by its bits ahead of SIZE", Check.BEYOND, x.sheet(0, 9, -1));
    }

    @Says(promise = 32, term = 0, text = ORDER)
    static void orderOfPut(Check check) {
        DialectAtlas x = new DialectAtlas();
        check.due("MISSING ahead of BEYOND by its number", Check.MISSING, x.put(0, -1, 0));
        check.due("BEYOND by its sheet ahead of MISSING", Check.BEYOND, x.put(4, 0, 0));
    }

    @Says(promise = 33, term = 0, text = ORDER)
    static void orderOfCopy(Check check) {
        DialectAtlas x = new DialectAtlas();
        x.sheet(0, 8, 1);
        x.sheet(1, 16, 1);
        check.due("BEYOND by a sheet ahead of MISSING", Check.BEYOND, x.copy(2, 0, 4, 0, 0));
        check.due("BEYOND by the other sheet ahead of MISSING", Check.BEYOND, x.copy(4, 0, 2, 0, 0));
        check.due("MISSING ahead of KIND", Check.MISSING, x.copy(0, 0, 2, 0, 1));
        check.due("MISSING ahead of BEYOND by n", Check.MISSING, x.copy(2, 0, 0, 0, -1));
        check.due("KIND ahead of BEYOND by n", Check.KIND, x.copy(0, 0, 1, 0, -1));
        check.due("KIND ahead of BEYOND by from", Check.KIND, x.copy(0, 9, 1, 0, 1));
    }

    @Says(promise = {2, 3, 4, 5, 6, 7, 8, 9, 10, 11, 12, 13, 14, 15}, term = 0,
            text = "an act that answers a finding changes nothing.")
    static void refusedActsChangeNothing(Check check) {
        refused(check, "2 BEYOND", Check.BEYOND, x -> x.village(10000, 1));
        refused(check, "2 FULL", Check.FULL, x -> x.village(0, 1));
        refused(check, "3 BEYOND", Check.BEYOND, x -> x.road(0, 1, 100));
        refused(check, "3 BEYOND", Check.BEYOND, x -> x.road(0, 12, 1));
        refused(check, "3 SIZE", Check.SIZE, x -> x.road(3, 3, 1));
        refused(check, "4 BEYOND", Check.BEYOND, x -> x.walk(0, 12));
        refused(check, "4 CUT", Check.CUT, x -> x.walk(0, 11));
        refused(check, "5 BEYOND", Check.BEYOND, x -> x.day(499));
        refused(check, "5 BEYOND", Check.BEYOND, x -> x.day(1000));
        refused(check, "6 BEYOND", Check.BEYOND, x -> x.asked(0, 0, 10));
        refused(check, "6 FULL", Check.FULL, x -> x.asked(0, 0, 1));
        refused(check, "7 BEYOND", Check.BEYOND, x -> x.as(20, 0));
        refused(check, "7 KIND", Check.KIND, x -> x.as(0, 3));
        refused(check, "8 BEYOND", Check.BEYOND, x -> x.form(2, 0x1a00));
        refused(check, "8 FULL", Check.FULL, x -> x.form(8, 0));
        refused(check, "9 BEYOND", Check.BEYOND, x -> x.sound(0, 2));
        refused(check, "10 BEYOND", Check.BEYOND, x -> x.far(0, 30));
        refused(check, "11 BEYOND", Check.BEYOND, x -> x.answer(0, 6, 0));
        refused(check, "11 FULL", Check.FULL, x -> x.answer(0, 0, 0));
        refused(check, "12 BEYOND", Check.BEYOND, x -> x.take(60));
        refused(check, "12 TAKEN", Check.TAKEN, x -> x.take(3));
        refused(check, "13 BEYOND", Check.BEYOND, x -> x.answerIs(0, 5));
        refused(check, "14 BEYOND", Check.BEYOND, x -> x.says(0, 0, 1000));
        refused(check, "14 NONE", Check.NONE, x -> x.says(11, 0, 500));
        refused(check, "15 BEYOND", Check.BEYOND, x -> x.weight(0, 0, 30, 0));
    }

    @Says(promise = {16, 17, 18, 19, 20, 21, 22, 23, 24, 25, 26, 27, 28, 29, 30}, term = 0,
            text = "an act that answers a finding changes nothing.")
    static void refusedQuestionsChangeNothing(Check check) {
        refused(check, "16 BEYOND", Check.BEYOND, x -> x.feed(0, 0));
        refused(check, "16 FULL", Check.FULL, x -> x.feed(8, 0));
        refused(check, "17 BEYOND", Check.BEYOND, x -> x.text(4));
        refused(check, "18 BEYOND", Check.BEYOND, x -> x.changes(-1));
        refused(check, "19 BEYOND", Check.BEYOND, x -> x.becomes(0, 0, 2));
        refused(check, "20 BEYOND", Check.BEYOND, x -> x.explains(0, 0, 30));
        refused(check, "20 MISSING", Check.MISSING, x -> x.explains(11, 0, 0));
        refused(check, "20 NONE", Check.NONE, x -> x.explains(0, 0, 17));
        refused(check, "21 BEYOND", Check.BEYOND, x -> x.covers(4, 0, 0));
        refused(check, "22 BEYOND", Check.BEYOND, x -> x.border(0, 0, 1, 4));
        refused(check, "22 SIZE", Check.SIZE, x -> x.border(0, 1, 1, 0));
        refused(check, "23 BEYOND", Check.BEYOND, x -> x.distance(0, 12, 0));
        refused(check, "24 BEYOND", Check.BEYOND, x -> x.dialects(5, 0));
        refused(check, "24 SIZE", Check.SIZE, x -> x.dialects(4, 0));
        refused(check, "25 BEYOND", Check.BEYOND, x -> x.proves(4, 0));
        refused(check, "25 MISSING", Check.MISSING, x -> x.proves(3, 0));
        refused(check, "25 SIZE", Check.SIZE, x -> x.proves(0, 0));
        refused(check, "26 BEYOND", Check.BEYOND, x -> x.next(6));
        refused(check, "27 BEYOND", Check.BEYOND, x -> x.foretold(12, 0));
        refused(check, "27 NONE", Check.NONE, x -> x.foretold(11, 0));
        refused(check, "28 BEYOND", Check.BEYOND, x -> x.round(0, 1, 0));
        refused(check, "28 SIZE", Check.SIZE, x -> x.round(0, 0b111111110, 0));
        refused(check, "28 CUT", Check.CUT, x -> x.round(0, 0b100000000000, 0));
        refused(check, "28 NONE", Check.NONE, x -> x.round(0, 2, 1));
        refused(check, "29 BEYOND", Check.BEYOND, x -> x.spread(0, 31));
        refused(check, "30 BEYOND", Check.BEYOND, x -> x.seeds(31));
        refused(check, "30 NONE", Check.NONE, x -> x.seeds(0));
    }

    @Says(promise = {31, 32, 33, 35}, term = 0, text = "an act that answers a finding changes nothing.")
    static void refusedSheetsChangeNothing(Check check) {
        refused(check, "31 BEYOND", Check.BEYOND, x -> x.sheet(0, 9, 1));
        refused(check, "31 SIZE", Check.SIZE, x -> x.sheet(0, 8, -1));
        refused(check, "31 BEYOND", Check.BEYOND, x -> x.sheet(0, 8, 21));
        refused(check, "32 BEYOND", Check.BEYOND, x -> x.put(4, 0, 1));
        refused(check, "32 MISSING", Check.MISSING, x -> x.put(3, 0, 1));
        refused(check, "32 BEYOND", Check.BEYOND, x -> x.put(0, 10, 1));
        refused(check, "33 BEYOND", Check.BEYOND, x -> x.copy(0, 0, 4, 0, 1));
        refused(check, "33 MISSING", Check.MISSING, x -> x.copy(0, 0, 3, 0, 1));
        refused(check, "33 KIND", Check.KIND, x -> x.copy(0, 1, 1, 0, 1));
        refused(check, "33 BEYOND", Check.BEYOND, x -> x.copy(0, 1, 0, 0, 10));
        refused(check, "33 BEYOND", Check.BEYOND, x -> x.copy(0, 1, 0, 2, 9));
        refused(check, "35 BEYOND", Check.BEYOND, x -> x.count(9));
    }

    /** Of two atlases made by the same calls only one is asked what is refused: both must tell the same then. */
    private static void refused(Check check, String name, int finding, ToIntFunction<DialectAtlas> call) {
        DialectAtlas x = Probe.full();
        check.due(name, finding, call.applyAsInt(x));
        check.due("findings behind " + name, 1, x.count(8));
        check.holds("as without it behind " + name, Probe.all(x).equals(Probe.all(Probe.full())));
    }

    @Says(promise = {24, 26, 34}, term = 0, text = "an act that answers a finding changes nothing.")
    static void refusedByAnEmptyAtlas(Check check) {
        DialectAtlas x = new DialectAtlas();
        check.due("24 NONE", Check.NONE, x.dialects(1, -1));
        check.due("26 NONE", Check.NONE, x.next(0));
        check.due("34 NONE", Check.NONE, x.undo());
        check.due("findings", 3, x.count(8));
        check.holds("as without them", Probe.all(x).equals(Probe.all(new DialectAtlas())));
    }

    @Says(promise = {28, 29, 30}, term = 0, text = "Sets are told by bits")
    static void setsAreBits(Check check) {
        DialectAtlas x = Given.villages(12);
        check.due("the last village", 2048, x.spread(2048, 0));
        check.due("all of them", 4095, x.spread(4095, 0));
        check.due("village 12", Check.BEYOND, x.spread(4096, 0));
        x.road(0, 11, 5);
        check.due("a round by the last", 10, x.round(0, 2048, -1));
        DialectAtlas y = Given.line(1, 1, 1, 1);
        check.due("village 1 as a seed", 2, y.seeds(1));
    }

    @Says(promise = {7, 10, 27}, term = 0, text = "quotients are cut.")
    static void quotientsAreCut(Check check) {
        DialectAtlas x = Given.villages(3);
        x.village(0, 3);
        check.due("half of 9 is 4, and 1 more", 5, x.as(x.asked(0, 2, 9), 2));
        Given.form(x, "e");
        Given.form(x, "a");
        check.due("e is 4, which by 5 is 0", 1, x.far(0, 1));
        x.road(0, 2, 1);
        x.road(0, 3, 2);
        Given.say(x, 2, 0, 1);
        Given.say(x, 1, 0, 0);
        check.due("1 by 2 is 0", 1, x.foretold(0, 0));
        Given.say(x, 3, 0, 0);
        check.due("3 by 3 is 1", 0, x.foretold(0, 0));
    }

    @Says(promise = 35, term = 0, text = "FINDINGS are answers below -99999")
    static void otherAnswersAreNoFindings(Check check) {
        DialectAtlas x = Given.sayers("a", "b");
        List<Integer> answers = new ArrayList<>();
        answers.add(x.answerIs(0, 4));
        answers.add(x.border(0, 0, 1, 2));
        x.sheet(0, 8, 2);
        answers.add(x.proves(0, 99));
        answers.add(x.text(0));
        answers.add(Given.text(x, 0, "?"));
        check.holds("none of " + answers + " is below -99999", answers.stream().allMatch(a -> a >= -99999));
        check.due("findings", 0, x.count(8));
    }
}
