/** Promises 31 to 35: sheets, undo, count. */
public final class SheetsTest {
    public static void main(String[] args) throws IllegalAccessException {
        Sentences.run(SheetsTest.class);
    }

    @Says(promise = {25, 31, 32, 33}, term = 6, text = "SHEETS 0 to 3")
    static void theLastSheetIsThree(Check check) {
        DialectAtlas x = Given.villages(1);
        for (int s = 0; s <= 3; s++) {
            check.due("sheet " + s, 1, x.sheet(s, 8, 1));
            check.due("put in " + s, 0, x.put(s, 0, 0));
            check.due("copy of " + s, 1, x.copy(s, 0, s, 0, 1));
            check.due("what " + s + " proves", -1, x.proves(s, 5));
        }
        for (int s : new int[] {-1, 4, Integer.MIN_VALUE, Integer.MAX_VALUE}) {
            check.due("sheet " + s, Check.BEYOND, x.sheet(s, 8, 1));
            check.due("put in " + s, Check.BEYOND, x.put(s, 0, 0));
            check.due("copy of " + s, Check.BEYOND, x.copy(s, 0, 0, 0, 1));
            check.due("copy to " + s, Check.BEYOND, x.copy(0, 0, s, 0, 1));
            check.due("what " + s + " proves", Check.BEYOND, x.proves(s, 5));
        }
    }

    @Says(promise = {31, 32}, term = 6, text = "are rows of up to 20 numbers of 8, 16 or 32 bits")
    static void twentyNumbersOfThreeWidths(Check check) {
        DialectAtlas x = new DialectAtlas();
        for (int bits : new int[] {8, 16, 32}) {
            check.due("20 of " + bits, 20, x.sheet(0, bits, 20));
            check.due("the last of them", 0, x.put(0, 19, 1));
            check.due("one behind it", Check.BEYOND, x.put(0, 20, 1));
        }
    }

    @Says(promise = {31, 32, 33}, term = 6, text = "or MISSING (all, at first).")
    static void allAreMissingAtFirst(Check check) {
        DialectAtlas x = new DialectAtlas();
        for (int s = 0; s <= 3; s++) {
            check.due("put in " + s, Check.MISSING, x.put(s, 0, 0));
            check.due("copy of " + s, Check.MISSING, x.copy(s, 0, s, 0, 0));
            check.due("what " + s + " proves", Check.MISSING, x.proves(s, 0));
        }
    }

    @Says(promise = 31, text = "A sheet has n numbers, all 0, of 8, 16 or 32 bits")
    static void aSheetOfNulls(Check check) {
        DialectAtlas x = Given.villages(2);
        check.due("two", 2, x.sheet(1, 16, 2));
        check.due("all 0", -1, x.proves(1, 5));
        x.put(1, 0, 5);
        check.due("one is not", 0, x.proves(1, 5));
        check.due("made anew", 2, x.sheet(1, 16, 2));
        check.due("all 0 again", -1, x.proves(1, 5));
        x.put(1, 1, 5);
        check.due("one shorter", 1, x.sheet(1, 32, 1));
        check.due("longer again", 2, x.sheet(1, 32, 2));
        check.due("all 0 in a longer one", -1, x.proves(1, 5));
        check.due("none", 0, x.sheet(1, 8, 0));
        check.due("an empty one is not missing", Check.BEYOND, x.put(1, 0, 0));
        check.due("others stay missing", Check.MISSING, x.put(0, 0, 0));
    }

    @Says(promise = 31, text = "A sheet has n numbers")
    static void otherSheetsStay(Check check) {
        DialectAtlas x = Given.villages(2);
        for (int s = 0; s <= 3; s++) {
            Given.sheet(x, s, 0, 9);
        }
        for (int s = 0; s <= 3; s++) {
            x.sheet(s, 8, 2);
            for (int other = 0; other <= 3; other++) {
                check.due("sheet " + other + " behind " + s, other == s ? -1 : 1, x.proves(other, 5));
            }
            x.put(s, 1, 9);
        }
    }

    @Says(promise = 31, text = "bits 0: it is MISSING: n (0).")
    static void noBitsMakeItMissing(Check check) {
        DialectAtlas x = new DialectAtlas();
        x.sheet(0, 8, 3);
        check.due("with n 0", 0, x.sheet(0, 0, 0));
        check.due("it is", Check.MISSING, x.put(0, 0, 0));
        check.due("one that is missing", 0, x.sheet(0, 0, 0));
        x.sheet(0, 8, 3);
        check.due("with n 7", 0, x.sheet(0, 0, 7));
        check.due("it is again", Check.MISSING, x.put(0, 0, 0));
    }

    @Says(promise = 31, text = "BEYOND: no such sheet, or bits.")
    static void noSuchSheetOrBits(Check check) {
        DialectAtlas x = new DialectAtlas();
        check.due("sheet 4", Check.BEYOND, x.sheet(4, 8, 1));
        check.due("sheet -1", Check.BEYOND, x.sheet(-1, 8, 1));
        for (int bits : new int[] {1, 7, 9, 15, 17, 24, 31, 33, 64, -8, Integer.MIN_VALUE, Integer.MAX_VALUE}) {
            check.due(bits + " bits", Check.BEYOND, x.sheet(0, bits, 1));
        }
        check.due("it is missing still", Check.MISSING, x.put(0, 0, 0));
    }

    @Says(promise = 31, text = "SIZE: n is below 0.")
    static void lessThanNoNumbers(Check check) {
        DialectAtlas x = new DialectAtlas();
        x.sheet(0, 8, 2);
        check.due("-1", Check.SIZE, x.sheet(0, 16, -1));
        check.due("the least int", Check.SIZE, x.sheet(0, 16, Integer.MIN_VALUE));
        check.due("-1 without bits", Check.SIZE, x.sheet(0, 0, -1));
        check.due("it has two still", 0, x.put(0, 1, 0));
        check.due("0", 0, x.sheet(0, 8, 0));
    }

    @Says(promise = 31, text = "BEYOND: n is above 20.")
    static void moreThanTwentyNumbers(Check check) {
        DialectAtlas x = new DialectAtlas();
        x.sheet(0, 8, 2);
        check.due("21", Check.BEYOND, x.sheet(0, 16, 21));
        check.due("the greatest int", Check.BEYOND, x.sheet(0, 16, Integer.MAX_VALUE));
        check.due("21 without bits", Check.BEYOND, x.sheet(0, 0, 21));
        check.due("it has two still", 0, x.put(0, 1, 0));
        check.due("20", 20, x.sheet(0, 8, 20));
    }

    @Says(promise = 32, text = "Number i of a sheet becomes v (its lowest bits): 0.")
    static void numbersAreCutToTheirBits(Check check) {
        cut(check, 8, 256, -256, 0x12345600);
        cut(check, 16, 65536, -65536, 0x12340000);
        keep(check, 8, 1, 128, 255, -1, 257);
        keep(check, 16, 1, 256, 32768, 65535, -1, 65537);
        keep(check, 32, 1, 256, 65536, 1 << 24, -1, Integer.MIN_VALUE, Integer.MAX_VALUE);
    }

    /** In these bits such numbers are 0, the only one that can stand for the first village. */
    private static void cut(Check check, int bits, int... numbers) {
        for (int v : numbers) {
            DialectAtlas x = Given.villages(1);
            x.sheet(0, bits, 1);
            x.put(0, 0, 5);
            check.due("put " + v, 0, x.put(0, 0, v));
            check.due(v + " is 0 in " + bits + " bits", -1, x.proves(0, 5));
        }
    }

    private static void keep(Check check, int bits, int... numbers) {
        for (int v : numbers) {
            DialectAtlas x = Given.villages(1);
            x.sheet(0, bits, 1);
            check.due("put " + v, 0, x.put(0, 0, v));
            check.due(v + " is not 0 in " + bits + " bits", 0, x.proves(0, 5));
        }
    }

    @Says(promise = 32, text = "Number i of a sheet")
    static void onlyThatNumberBecomesIt(Check check) {
        DialectAtlas x = Given.villages(3);
        x.sheet(0, 8, 3);
        x.sheet(1, 8, 3);
        x.put(0, 1, 1);
        check.due("0 1 0", 100, x.proves(0, 9));
        x.put(0, 2, 258);
        check.due("0 1 2", -1, x.proves(0, 15));
        check.due("the other sheet stays", -1, x.proves(1, 5));
    }

    @Says(promise = 32, text = "BEYOND: no such sheet.")
    static void putInNoSheet(Check check) {
        DialectAtlas x = new DialectAtlas();
        check.due("sheet 4", Check.BEYOND, x.put(4, 0, 0));
        check.due("sheet -1", Check.BEYOND, x.put(-1, 0, 0));
    }

    @Says(promise = 32, text = "MISSING.")
    static void putInAMissingSheet(Check check) {
        DialectAtlas x = new DialectAtlas();
        x.sheet(0, 8, 1);
        check.due("another one", Check.MISSING, x.put(1, 0, 0));
        x.sheet(0, 0, 0);
        check.due("missing again", Check.MISSING, x.put(0, 0, 0));
    }

    @Says(promise = 32, text = "BEYOND: no such number.")
    static void putAsNoNumber(Check check) {
        DialectAtlas x = new DialectAtlas();
        x.sheet(0, 8, 2);
        check.due("number 2", Check.BEYOND, x.put(0, 2, 0));
        check.due("number -1", Check.BEYOND, x.put(0, -1, 0));
        check.due("the greatest int", Check.BEYOND, x.put(0, Integer.MAX_VALUE, 0));
        check.due("the least int", Check.BEYOND, x.put(0, Integer.MIN_VALUE, 0));
        check.due("number 1", 0, x.put(0, 1, 0));
        x.sheet(0, 8, 0);
        check.due("number 0 of none", Check.BEYOND, x.put(0, 0, 0));
    }

    @Says(promise = 33, text = "n numbers of a sheet from one on come to another one from one on: n.")
    static void numbersComeToAnother(Check check) {
        DialectAtlas x = Given.villages(4);
        Given.sheet(x, 1, 0, 1, 2, 3);
        Given.sheet(x, 2, 0, 0, 0, 0, 0, 0);
        check.due("four", 4, x.copy(1, 0, 2, 2, 4));
        Given.sheet(x, 0, 0, 0, 0, 9);
        check.due("two of them", 2, x.copy(2, 3, 0, 1, 2));
        check.due("0 1 2 9", 3, x.proves(0, 99));
        x.put(0, 3, 0);
        check.due("0 1 2 0", -1, x.proves(0, 15));
        check.due("three dialects", 100, x.proves(0, 14));
        check.due("none, at both ends", 0, x.copy(1, 4, 2, 6, 0));
        check.due("the first one stays", 100, x.proves(1, 19));
    }

    @Says(promise = 33, text = "from one on come to another one from one on: n.")
    static void allNumbersComeToAnother(Check check) {
        DialectAtlas x = Given.villages(10);
        x.sheet(1, 32, 20);
        x.sheet(3, 32, 20);
        x.put(1, 9, 1 << 30);
        x.put(1, 19, 1 << 30);
        check.due("all 20", 20, x.copy(1, 0, 3, 0, 20));
        check.due("number 9 of the second", 9, x.proves(3, 99));
        x.put(3, 9, 0);
        check.due("the first stands for itself", 9, x.proves(1, 99));
        check.due("the last of the second", 1, x.copy(3, 19, 3, 0, 1));
        check.due("it is no dialect", 0, x.proves(3, 99));
    }

    @Says(promise = 33, text = "n numbers of a sheet")
    static void numbersComeWithinOneSheet(Check check) {
        DialectAtlas x = Given.villages(4);
        Given.sheet(x, 0, 0, 1, 2, 3);
        // The numbers are those of ahead of the call, though they lie upon each other.
        check.due("forward", 3, x.copy(0, 0, 0, 1, 3));
        check.due("0 0 1 2", -1, x.proves(0, 15));
        check.due("it is no less", 100, x.proves(0, 14));
        check.due("backward", 3, x.copy(0, 1, 0, 0, 3));
        check.due("0 1 2 2", -1, x.proves(0, 15));
        x.put(0, 3, 3);
        check.due("in their place", 4, x.copy(0, 0, 0, 0, 4));
        check.due("0 1 2 3", 100, x.proves(0, 19));
    }

    @Says(promise = 33, text = "BEYOND: no such sheet (either).")
    static void copyOfNoSheet(Check check) {
        DialectAtlas x = new DialectAtlas();
        x.sheet(0, 8, 1);
        check.due("of sheet 4", Check.BEYOND, x.copy(4, 0, 0, 0, 1));
        check.due("of sheet -1", Check.BEYOND, x.copy(-1, 0, 0, 0, 1));
        check.due("to sheet 4", Check.BEYOND, x.copy(0, 0, 4, 0, 1));
        check.due("to sheet -1", Check.BEYOND, x.copy(0, 0, -1, 0, 1));
    }

    @Says(promise = 33, text = "MISSING: one is.")
    static void copyOfAMissingSheet(Check check) {
        DialectAtlas x = new DialectAtlas();
        check.due("both", Check.MISSING, x.copy(0, 0, 1, 0, 0));
        x.sheet(0, 8, 4);
        check.due("the second", Check.MISSING, x.copy(0, 0, 1, 0, 0));
        check.due("the first", Check.MISSING, x.copy(1, 0, 0, 0, 0));
    }

    @Says(promise = 33, text = "KIND: they are not of as many bits.")
    static void copyToOtherBits(Check check) {
        DialectAtlas x = new DialectAtlas();
        x.sheet(0, 8, 1);
        x.sheet(1, 16, 1);
        x.sheet(2, 32, 1);
        for (int s = 0; s < 3; s++) {
            for (int t = 0; t < 3; t++) {
                check.due("of " + s + " to " + t, s == t ? 1 : Check.KIND, x.copy(s, 0, t, 0, 1));
            }
        }
        check.due("none of them", Check.KIND, x.copy(0, 0, 1, 0, 0));
    }

    @Says(promise = 33, text = "BEYOND: one has not so many")
    static void copyOfTooMany(Check check) {
        DialectAtlas x = new DialectAtlas();
        x.sheet(0, 8, 4);
        x.sheet(1, 8, 6);
        check.due("the first has not", Check.BEYOND, x.copy(0, 1, 1, 0, 4));
        check.due("the second has not", Check.BEYOND, x.copy(0, 0, 1, 3, 4));
        check.due("none behind the end of the first", Check.BEYOND, x.copy(0, 5, 1, 0, 0));
        check.due("none behind the end of the second", Check.BEYOND, x.copy(0, 0, 1, 7, 0));
        check.due("a great n", Check.BEYOND, x.copy(0, 0, 1, 0, Integer.MAX_VALUE));
        check.due("a great from", Check.BEYOND, x.copy(0, Integer.MAX_VALUE, 1, 0, 1));
        check.due("a great to", Check.BEYOND, x.copy(0, 0, 1, Integer.MAX_VALUE, 1));
        check.due("sums that wrap around", Check.BEYOND, x.copy(0, Integer.MAX_VALUE, 1, 0, Integer.MAX_VALUE));
        check.due("just as many", 4, x.copy(0, 0, 1, 2, 4));
    }

    @Says(promise = 33, text = "or from, to or n is below 0.")
    static void copyFromBelowNull(Check check) {
        DialectAtlas x = new DialectAtlas();
        x.sheet(0, 8, 4);
        x.sheet(1, 8, 4);
        check.due("from", Check.BEYOND, x.copy(0, -1, 1, 0, 1));
        check.due("to", Check.BEYOND, x.copy(0, 0, 1, -1, 1));
        check.due("n", Check.BEYOND, x.copy(0, 1, 1, 1, -1));
        check.due("the least ints", Check.BEYOND,
                x.copy(0, Integer.MIN_VALUE, 1, Integer.MIN_VALUE, Integer.MIN_VALUE));
        check.due("0", 0, x.copy(0, 0, 1, 0, 0));
    }

    @Says(promise = 34, term = 6, text = "The latest 6 acts")
    static void sixAtMost(Check check) {
        DialectAtlas x = Given.villages(7);
        for (int left = 5; left >= 0; left--) {
            check.due("one of six", left, x.undo());
        }
        check.due("the seventh", Check.NONE, x.undo());
        check.due("it stays", 1, x.count(0));
        DialectAtlas y = Given.villages(9);
        y.undo();
        y.undo();
        y.day(1);
        check.due("what fell out does not come back", 4, y.undo());
    }

    @Says(promise = {2, 34}, term = 6, text = "of village()")
    static void undoOfAVillage(Check check) {
        DialectAtlas x = new DialectAtlas();
        x.village(707, 5);
        check.due("undone", 0, x.undo());
        check.due("villages", 0, x.count(0));
        check.due("folk", 0, x.count(7));
        check.due("it is gone", Check.BEYOND, x.walk(0, 0));
        check.due("its number is free", 0, x.village(1, 1));
        check.due("with other folk", 1, x.count(7));
    }

    @Says(promise = {3, 34}, term = 6, text = "road()")
    static void undoOfARoad(Check check) {
        DialectAtlas x = Given.villages(3);
        x.road(0, 1, 5);
        x.road(1, 2, 7);
        x.road(1, 0, 9);
        x.road(0, 1, 0);
        x.undo();
        check.due("the road of 9", 9, x.walk(0, 1));
        x.undo();
        check.due("the road of 5", 5, x.walk(1, 0));
        check.due("the other one stays", 7, x.walk(1, 2));
        x.undo();
        x.undo();
        check.due("none", Check.CUT, x.walk(0, 1));
        check.due("roads", 0, x.count(1));
        x.road(0, 1, 0);
        check.due("one that changed nothing is an act, too", 2, x.undo());
    }

    @Says(promise = {6, 34}, term = 6, text = "asked()")
    static void undoOfAsked(Check check) {
        DialectAtlas x = Given.villages(2);
        x.asked(0, 1, 2);
        x.asked(1, 3, 9);
        x.undo();
        check.due("how many", 1, x.count(2));
        check.due("the second is gone", Check.BEYOND, x.as(1, 0));
        check.due("the first is not", 4, x.as(0, 1));
        check.due("its number is free", 1, x.asked(0, 0, 1));
        check.due("for another one", Check.KIND, x.as(1, 3));
    }

    @Says(promise = {8, 34}, term = 6, text = "form()")
    static void undoOfAForm(Check check) {
        DialectAtlas x = new DialectAtlas();
        Given.form(x, "a");
        Given.form(x, "z");
        check.due("far ahead of it", 3, x.far(0, 1));
        x.undo();
        check.due("z is gone", Check.BEYOND, x.sound(1, -1));
        check.due("its number is free", 1, Given.form(x, "b"));
        check.due("far of the new one", 1, x.far(1, 0));
        Given.form(x, "a");
        check.due("one that is like another is an act, too", 2, x.undo());
        check.due("no form goes with it", 2, x.count(3));
    }

    @Says(promise = {11, 34}, term = 6, text = "answer()")
    static void undoOfAnAnswer(Check check) {
        DialectAtlas x = Given.speaker("a", "b");
        x.answer(0, 0, 0);
        x.answer(0, 0, 1);
        x.undo();
        check.due("how many", 1, x.count(4));
        check.due("the earlier one is said again", 0, x.says(0, 0, 0));
        check.due("it is gone", Check.BEYOND, x.answerIs(1, 0));
        check.due("its number is free", 1, x.answer(0, 5, 1));
        check.due("for another one", 5, x.answerIs(1, 1));
    }

    @Says(promise = {12, 34}, term = 6, text = "take()")
    static void undoOfATaking(Check check) {
        DialectAtlas x = Given.speaker("a");
        x.answer(0, 0, 0);
        x.answer(0, 1, 0);
        x.day(4);
        x.take(0);
        x.take(1);
        x.undo();
        check.due("the second is not taken back", -1, x.answerIs(1, 4));
        check.due("the first is", 4, x.answerIs(0, 4));
        check.due("one stands", 1, x.count(5));
        x.undo();
        check.due("nor is the first", -1, x.answerIs(0, 4));
        check.due("it is said again", 0, x.says(0, 0, 4));
        check.due("and may be taken back again", 1, x.take(0));
    }

    @Says(promise = {5, 34}, term = 6, text = "day()")
    static void undoOfADay(Check check) {
        DialectAtlas x = new DialectAtlas();
        x.day(4);
        x.day(999);
        x.day(999);
        check.due("one that stayed is an act, too", 2, x.undo());
        check.due("today", 999, x.count(6));
        x.undo();
        check.due("today is earlier", 4, x.count(6));
        x.undo();
        check.due("the first day", 0, x.count(6));
        check.due("an earlier day may be set again", 0, x.day(1));
    }

    @Says(promise = 34, term = 6, text = "that answered no finding can be undone")
    static void whatCannotBeUndone(Check check) {
        DialectAtlas x = Given.speaker("a");
        x.village(0, 0);
        x.road(0, 0, 1);
        x.asked(0, 4, 1);
        x.form(0, 0);
        x.answer(0, 6, 0);
        x.take(0);
        x.day(-1);
        x.sheet(0, 8, 1);
        x.put(0, 0, 3);
        Given.text(x, 0, "a>b;");
        x.feed(2, 0);
        x.seeds(3);
        check.due("only village, asked and form", 2, x.undo());
        check.due("the form is gone", 0, x.count(3));
        check.due("the text stays", 1, x.changes(0));
        check.due("the tape stays", 3, x.feed(1, 0));
        check.due("the sheet stays", 0, x.proves(0, 5));
        check.due("findings stay counted", 7, x.count(8));
    }

    @Says(promise = 34, term = 6, text = ", the latest first.")
    static void theLatestFirst(Check check) {
        DialectAtlas x = Given.villages(6);
        x.asked(0, 0, 1);
        Given.form(x, "a");
        x.answer(0, 0, 0);
        x.road(0, 1, 7);
        x.take(0);
        x.road(2, 3, 50);
        x.day(9);
        x.road(2, 3, 0);
        x.undo();
        check.due("the road that was taken away", 50, x.walk(2, 3));
        x.undo();
        check.due("the day", 0, x.count(6));
        x.undo();
        check.due("the road that was laid", Check.CUT, x.walk(2, 3));
        x.undo();
        check.due("the taking", 1, x.count(5));
        x.undo();
        check.due("the first road", 0, x.count(1));
        x.undo();
        check.due("the answer", 0, x.count(4));
        check.due("the form is the seventh", Check.NONE, x.undo());
        check.due("and stays", 1, x.count(3));
    }

    @Says(promise = 34, text = "The latest act that can be is undone: how many can still be.")
    static void howManyCanStillBe(Check check) {
        DialectAtlas x = Given.villages(3);
        check.due("two", 2, x.undo());
        check.due("one", 1, x.undo());
        x.village(0, 1);
        x.village(0, 1);
        check.due("two again", 2, x.undo());
        check.due("villages", 2, x.count(0));
        for (int i = 0; i < 50; i++) {
            x.day(i);
        }
        check.due("five behind fifty", 5, x.undo());
    }

    @Says(promise = 34, text = "NONE.")
    static void nothingToUndo(Check check) {
        DialectAtlas x = new DialectAtlas();
        check.due("at first", Check.NONE, x.undo());
        x.day(3);
        check.due("the last", 0, x.undo());
        check.due("then none", Check.NONE, x.undo());
        check.due("an undo is no act", Check.NONE, x.undo());
        check.due("findings", 3, x.count(8));
    }

    @Says(promise = 35, text = "0 VILLAGES, 1 ROADS, 2 THE ASKED, 3 FORMS, 4 ANSWERS, 5 that are not TAKEN BACK, "
            + "6 TODAY, 7 all FOLK")
    static void whatIsThere(Check check) {
        DialectAtlas x = new DialectAtlas();
        x.village(0, 999);
        x.village(1, 2);
        x.road(0, 1, 3);
        for (int i = 0; i < 3; i++) {
            x.asked(0, 0, 1);
        }
        Given.forms(x, 4);
        for (int i = 0; i < 5; i++) {
            x.answer(0, 0, 0);
        }
        x.take(1);
        x.take(3);
        x.day(77);
        int[] due = {2, 1, 3, 4, 5, 3, 77, 1001, 0};
        for (int what = 0; what < due.length; what++) {
            check.due("count(" + what + ")", due[what], x.count(what));
        }
    }

    @Says(promise = 35, text = "0 VILLAGES, 1 ROADS")
    static void theMostOfEach(Check check) {
        DialectAtlas x = new DialectAtlas();
        for (int v = 0; v < 12; v++) {
            x.village(9999, 999);
            for (int u = 0; u < v; u++) {
                x.road(u, v, 99);
            }
        }
        check.due("roads", 66, x.count(1));
        check.due("folk", 12 * 999, x.count(7));
        x.road(11, 0, 0);
        check.due("roads without one", 65, x.count(1));
    }

    @Says(promise = 35, text = "8 how many acts answered a finding ever (this one, too, if it does).")
    static void findingsAreCounted(Check check) {
        DialectAtlas x = Given.villages(1);
        x.walk(0, 5);
        x.says(0, 1, 0);
        x.text(9);
        check.due("three", 3, x.count(8));
        check.due("this one is none", 3, x.count(8));
        x.count(9);
        check.due("that one is", 4, x.count(8));
        x.undo();
        x.undo();
        check.due("an undo that finds nothing is, another one is not", 5, x.count(8));
        x.answerIs(0, 4);
        check.due("any question", 6, x.count(8));
    }

    @Says(promise = 35, text = "BEYOND: another what.")
    static void noOtherCount(Check check) {
        DialectAtlas x = new DialectAtlas();
        check.due("what 9", Check.BEYOND, x.count(9));
        check.due("what -1", Check.BEYOND, x.count(-1));
        check.due("the greatest int", Check.BEYOND, x.count(Integer.MAX_VALUE));
        check.due("the least int", Check.BEYOND, x.count(Integer.MIN_VALUE));
        check.due("findings", 4, x.count(8));
    }
}
