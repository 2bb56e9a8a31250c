/** Promises 6 to 15: the asked, forms, answers, what villages say. */
public final class AnswersTest {
    private static final int SPEAKER = 0;
    private static final int ELDER = 1;
    private static final int CHILD = 2;
    private static final int TEACHER = 3;

    public static void main(String[] args) throws IllegalAccessException {
        Sentences.run(AnswersTest.class);
    }

    @Says(promise = {6, 7}, term = 1, text = "THE ASKED 0, 1, .. (at most 20)")
    static void theTwentiethIsOneOfThem(Check check) {
        DialectAtlas x = Given.villages(1);
        for (int i = 0; i < 20; i++) {
            check.due("one more", i, x.asked(0, SPEAKER, 1 + i % 9));
        }
        check.due("how many", 20, x.count(2));
        check.due("the weight of the last", 2, x.as(19, SPEAKER));
        check.due("one behind the last", Check.BEYOND, x.as(20, SPEAKER));
    }

    @Says(promise = {6, 15}, term = 1, text = "live in a VILLAGE")
    static void theAskedLiveInAVillage(Check check) {
        DialectAtlas x = Given.villages(12);
        Given.form(x, "a");
        Given.say(x, 11, 0, 0);
        check.due("where the asked one lives", 1, x.weight(11, 0, 0, 0));
        check.due("in another one", 0, x.weight(10, 0, 0, 0));
    }

    @Says(promise = {6, 7}, term = 1,
            text = "are of a kind: 0 SPEAKER, 1 ELDER under it, 2 CHILD under SPEAKER, 3 TEACHER under ELDER")
    static void kindsStandUnderKinds(Check check) {
        boolean[][] isUnder = {
            {true, false, false, false}, {true, true, false, false},
            {true, false, true, false}, {true, true, false, true}};
        for (int own = 0; own < 4; own++) {
            DialectAtlas x = Given.villages(1);
            x.asked(0, own, 1);
            for (int kind = 0; kind < 4; kind++) {
                check.due("kind " + own + " as " + kind, isUnder[own][kind] ? 0 : Check.KIND,
                        Math.min(0, x.as(0, kind)));
            }
        }
    }

    @Says(promise = 6, term = 1, text = "with a TRUST (1 to 9).")
    static void trustIsFromOneToNine(Check check) {
        DialectAtlas x = Given.villages(1);
        check.due("1", 0, x.asked(0, SPEAKER, 1));
        check.due("9", 1, x.asked(0, SPEAKER, 9));
        check.due("0", Check.BEYOND, x.asked(0, SPEAKER, 0));
        check.due("10", Check.BEYOND, x.asked(0, SPEAKER, 10));
    }

    @Says(promise = 7, term = 1, text = "WEIGHT: TRUST")
    static void weightOfSpeakers(Check check) {
        weights(check, SPEAKER, 1, 2, 3, 4, 5, 6, 7, 8, 9);
    }

    @Says(promise = 7, term = 1, text = "of an ELDER twice that")
    static void weightOfElders(Check check) {
        weights(check, ELDER, 2, 4, 6, 8, 10, 12, 14, 16, 18);
    }

    @Says(promise = 7, term = 1, text = "of a TEACHER twice that of an ELDER, less 1")
    static void weightOfTeachers(Check check) {
        weights(check, TEACHER, 3, 7, 11, 15, 19, 23, 27, 31, 35);
    }

    @Says(promise = 7, term = 1, text = "of a CHILD half of TRUST, 1 more (cut first).")
    static void weightOfChildren(Check check) {
        weights(check, CHILD, 1, 2, 2, 3, 3, 4, 4, 5, 5);
    }

    private static void weights(Check check, int kind, int... due) {
        DialectAtlas x = Given.villages(1);
        for (int trust = 1; trust <= 9; trust++) {
            check.due("trust " + trust, due[trust - 1], x.as(x.asked(0, kind, trust), kind));
        }
    }

    @Says(promise = 6, text = "One more of THE ASKED: the number.")
    static void theAskedAreNumbered(Check check) {
        DialectAtlas x = Given.villages(2);
        check.due("the first", 0, x.asked(1, TEACHER, 9));
        check.due("one like it", 1, x.asked(1, TEACHER, 9));
        check.due("in another village", 2, x.asked(0, SPEAKER, 1));
    }

    @Says(promise = 6, text = "BEYOND: no such VILLAGE")
    static void nobodyInNoVillage(Check check) {
        check.due("no villages at all", Check.BEYOND, new DialectAtlas().asked(0, SPEAKER, 1));
        DialectAtlas x = Given.villages(2);
        check.due("village 2", Check.BEYOND, x.asked(2, SPEAKER, 1));
        check.due("village -1", Check.BEYOND, x.asked(-1, SPEAKER, 1));
        check.due("the greatest int", Check.BEYOND, x.asked(Integer.MAX_VALUE, SPEAKER, 1));
        check.due("how many", 0, x.count(2));
        check.due("village 1", 0, x.asked(1, SPEAKER, 1));
    }

    @Says(promise = 6, text = "kind")
    static void nobodyOfNoKind(Check check) {
        DialectAtlas x = Given.villages(1);
        check.due("kind 4", Check.BEYOND, x.asked(0, 4, 1));
        check.due("kind -1", Check.BEYOND, x.asked(0, -1, 1));
        check.due("the least int", Check.BEYOND, x.asked(0, Integer.MIN_VALUE, 1));
        check.due("how many", 0, x.count(2));
        check.due("kind 3", 0, x.asked(0, TEACHER, 1));
    }

    @Says(promise = 6, text = "TRUST.")
    static void nobodyOfNoTrust(Check check) {
        DialectAtlas x = Given.villages(1);
        check.due("0", Check.BEYOND, x.asked(0, SPEAKER, 0));
        check.due("-1", Check.BEYOND, x.asked(0, SPEAKER, -1));
        check.due("10", Check.BEYOND, x.asked(0, SPEAKER, 10));
        check.due("the greatest int", Check.BEYOND, x.asked(0, SPEAKER, Integer.MAX_VALUE));
        check.due("how many", 0, x.count(2));
    }

    @Says(promise = 6, text = "FULL: there are 20.")
    static void noTwentyFirst(Check check) {
        DialectAtlas x = Given.villages(1);
        for (int i = 0; i < 20; i++) {
            check.due("number " + i, i, x.asked(0, i % 4, 1));
        }
        check.due("one more", Check.FULL, x.asked(0, SPEAKER, 1));
        check.due("how many", 20, x.count(2));
        x.undo();
        check.due("behind an undo", 19, x.asked(0, SPEAKER, 1));
    }

    @Says(promise = 7, text = "One of THE ASKED as one of a kind: the WEIGHT.")
    static void theWeightIsTheSameAsAnyKind(Check check) {
        DialectAtlas x = Given.villages(1);
        x.asked(0, TEACHER, 4);
        check.due("a teacher as a teacher", 15, x.as(0, TEACHER));
        check.due("as an elder", 15, x.as(0, ELDER));
        check.due("as a speaker", 15, x.as(0, SPEAKER));
    }

    @Says(promise = 7, text = "BEYOND: no such one")
    static void noSuchOne(Check check) {
        check.due("nobody at all", Check.BEYOND, new DialectAtlas().as(0, SPEAKER));
        DialectAtlas x = Given.speaker();
        check.due("number 1", Check.BEYOND, x.as(1, SPEAKER));
        check.due("number -1", Check.BEYOND, x.as(-1, SPEAKER));
        check.due("the greatest int", Check.BEYOND, x.as(Integer.MAX_VALUE, SPEAKER));
    }

    @Says(promise = 7, text = "or kind.")
    static void asNoKind(Check check) {
        for (int own = 0; own < 4; own++) {
            DialectAtlas x = Given.villages(1);
            x.asked(0, own, 1);
            check.due("kind 4", Check.BEYOND, x.as(0, 4));
            check.due("kind -1", Check.BEYOND, x.as(0, -1));
            check.due("the least int", Check.BEYOND, x.as(0, Integer.MIN_VALUE));
        }
    }

    @Says(promise = 7, text = "KIND: not of that kind, nor of one under it.")
    static void notOfThatKind(Check check) {
        DialectAtlas x = Given.villages(1);
        x.asked(0, SPEAKER, 1);
        x.asked(0, ELDER, 1);
        x.asked(0, CHILD, 1);
        x.asked(0, TEACHER, 1);
        check.due("a speaker as an elder, which is under it", Check.KIND, x.as(0, ELDER));
        check.due("a speaker as a teacher", Check.KIND, x.as(0, TEACHER));
        check.due("an elder as a teacher", Check.KIND, x.as(1, TEACHER));
        check.due("an elder as a child", Check.KIND, x.as(1, CHILD));
        check.due("a child as an elder", Check.KIND, x.as(2, ELDER));
        check.due("a teacher as a child", Check.KIND, x.as(3, CHILD));
        check.due("a teacher as a speaker, two above", 3, x.as(3, SPEAKER));
    }

    @Says(promise = {8, 9}, term = 2, text = "SOUNDS are 0 to 25 (letters a to z).")
    static void theLastSoundIs25(Check check) {
        DialectAtlas x = new DialectAtlas();
        check.due("0", 0, x.form(1, 0));
        check.due("25", 1, x.form(1, 25));
        check.due("26", Check.BEYOND, x.form(1, 26));
        check.due("a", 0, x.sound(0, 0));
        check.due("z", 25, x.sound(1, 0));
    }

    @Says(promise = {8, 9}, term = 2, text = "FORMS 0, 1, .. (at most 30)")
    static void theThirtiethIsOneOfThem(Check check) {
        DialectAtlas x = new DialectAtlas();
        Given.forms(x, 30);
        check.due("how many", 30, x.count(3));
        check.due("sounds of the last", 2, x.sound(29, -1));
        check.due("its first", 3, x.sound(29, 0));
        check.due("one behind the last", Check.BEYOND, x.sound(30, -1));
    }

    @Says(promise = {8, 9}, term = 2, text = "are rows of 1 to 8 SOUNDS")
    static void rowsOfOneToEight(Check check) {
        DialectAtlas x = new DialectAtlas();
        for (int size = 1; size <= 8; size++) {
            check.due("a row of " + size, size - 1, x.form(size, Given.sounds("zyxwvuts")));
            check.due("its last sound", 26 - size, x.sound(size - 1, size - 1));
        }
    }

    @Says(promise = 8, term = 2, text = "no two alike.")
    static void noTwoAlike(Check check) {
        DialectAtlas x = new DialectAtlas();
        Given.form(x, "ab");
        Given.form(x, "ab");
        check.due("how many", 1, x.count(3));
        check.due("others of the same sounds", 1, Given.form(x, "ba"));
    }

    @Says(promise = 8, text = "A FORM of so many SOUNDS (the lowest bytes of a number, the lowest first)")
    static void theLowestBytesFirst(Check check) {
        DialectAtlas x = new DialectAtlas();
        x.form(2, 0x030201L);
        check.due("how many", 2, x.sound(0, -1));
        check.due("the first", 1, x.sound(0, 0));
        check.due("the second", 2, x.sound(0, 1));
        x.form(8, 0x0807060504030201L);
        for (int i = 0; i < 8; i++) {
            check.due("of eight", i + 1, x.sound(1, i));
        }
    }

    @Says(promise = 8, text = "its number, or that of the one that is like it.")
    static void theNumberOfTheLikeOne(Check check) {
        DialectAtlas x = new DialectAtlas();
        check.due("a", 0, Given.form(x, "a"));
        check.due("aa begins like it", 1, Given.form(x, "aa"));
        check.due("ab", 2, Given.form(x, "ab"));
        check.due("a again", 0, Given.form(x, "a"));
        check.due("higher bytes do not count", 0, x.form(1, 0xffffffffffffff00L));
        check.due("eight sounds", 3, Given.form(x, "abcdefgz"));
        check.due("the last one is another", 4, Given.form(x, "abcdefgy"));
        check.due("eight again", 3, Given.form(x, "abcdefgz"));
        check.due("how many", 5, x.count(3));
    }

    @Says(promise = 8, text = "BEYOND: size is not 1 to 8")
    static void noFormOfSuchASize(Check check) {
        DialectAtlas x = new DialectAtlas();
        check.due("0", Check.BEYOND, x.form(0, 0));
        check.due("9", Check.BEYOND, x.form(9, 0));
        check.due("-1", Check.BEYOND, x.form(-1, 0));
        check.due("the greatest int", Check.BEYOND, x.form(Integer.MAX_VALUE, 0));
        check.due("the least int", Check.BEYOND, x.form(Integer.MIN_VALUE, 0));
        check.due("how many", 0, x.count(3));
        check.due("8", 0, x.form(8, 0));
        check.due("1", 1, x.form(1, 0));
    }

    @Says(promise = 8, text = "or a byte is no SOUND.")
    static void noFormOfOtherBytes(Check check) {
        DialectAtlas x = new DialectAtlas();
        for (int i = 0; i < 8; i++) {
            check.due("byte " + i + " is 26", Check.BEYOND, x.form(8, 26L << 8 * i));
            check.due("byte " + i + " is 128", Check.BEYOND, x.form(8, 128L << 8 * i));
            check.due("byte " + i + " is 255", Check.BEYOND, x.form(8, 255L << 8 * i));
        }
        check.due("how many", 0, x.count(3));
        for (int i = 1; i < 8; i++) {
            check.due("byte " + i + ", behind the size, is 26", i - 1, x.form(i, 26L << 8 * i));
        }
    }

    @Says(promise = 8, text = "FULL: there are 30.")
    static void noThirtyFirstForm(Check check) {
        DialectAtlas x = new DialectAtlas();
        Given.forms(x, 29);
        check.due("the thirtieth", 29, Given.form(x, "zzz"));
        check.due("one more", Check.FULL, Given.form(x, "yyy"));
        check.due("how many", 30, x.count(3));
        check.due("one that is like an earlier one needs no room", 29, Given.form(x, "zzz"));
        check.due("the first", 0, x.form(2, 0));
        x.undo();
        x.undo();
        x.undo();
        check.due("behind an undo", 29, Given.form(x, "yyy"));
    }

    @Says(promise = 9, text = "SOUND i of a FORM")
    static void soundsOfAForm(Check check) {
        DialectAtlas x = Given.speaker("zyxcba", "m");
        check.due("the first", 25, x.sound(0, 0));
        check.due("the second", 24, x.sound(0, 1));
        check.due("the last", 0, x.sound(0, 5));
        check.due("the only one of another form", 12, x.sound(1, 0));
    }

    @Says(promise = 9, text = "i -1: how many.")
    static void howManySounds(Check check) {
        DialectAtlas x = Given.speaker("zyxcba", "m", "abcdefgh");
        check.due("six", 6, x.sound(0, -1));
        check.due("one", 1, x.sound(1, -1));
        check.due("eight", 8, x.sound(2, -1));
    }

    @Says(promise = 9, text = "BEYOND: no such FORM")
    static void noSoundOfNoForm(Check check) {
        check.due("no forms at all", Check.BEYOND, new DialectAtlas().sound(0, -1));
        DialectAtlas x = Given.speaker("a", "b");
        check.due("form 2", Check.BEYOND, x.sound(2, 0));
        check.due("form -1", Check.BEYOND, x.sound(-1, 0));
        check.due("the greatest int", Check.BEYOND, x.sound(Integer.MAX_VALUE, -1));
        check.due("the least int", Check.BEYOND, x.sound(Integer.MIN_VALUE, -1));
    }

    @Says(promise = 9, text = "or SOUND.")
    static void noSuchSound(Check check) {
        DialectAtlas x = Given.speaker("ab", "abcdefgh");
        check.due("behind the last", Check.BEYOND, x.sound(0, 2));
        check.due("-2", Check.BEYOND, x.sound(0, -2));
        check.due("8 of eight", Check.BEYOND, x.sound(1, 8));
        check.due("the greatest int", Check.BEYOND, x.sound(0, Integer.MAX_VALUE));
        check.due("the least int", Check.BEYOND, x.sound(0, Integer.MIN_VALUE));
    }

    @Says(promise = 10, term = 2, text = "FAR of two FORMS: the least cost of turning one into the other")
    static void farIsTheLeastCost(Check check) {
        check.due("moved by one: out and in again", 4, farOf(check, "kabab", "ababz"));
        check.due("the kite", 5, farOf(check, "kite", "bit"));
        check.due("eight others", 24, farOf(check, "aaaaaaaa", "zzzzzzzz"));
        check.due("one to eight others", 17, farOf(check, "z", "aaaaaaaa"));
        check.due("out and in is not dearer than two changes across", 4, farOf(check, "af", "fa"));
    }

    @Says(promise = 10, term = 2, text = "a SOUND put in, or taken out: 2")
    static void putInOrTakenOut(Check check) {
        check.due("put in between", 2, farOf(check, "ab", "akb"));
        check.due("put in ahead", 2, farOf(check, "ab", "kab"));
        check.due("taken out at the end", 2, farOf(check, "abz", "ab"));
        check.due("seven", 14, farOf(check, "a", "aaaaaaaa"));
    }

    @Says(promise = 10, term = 2, text = "changed to another one: 1, if both are of one CLASS (a SOUND by 5, cut)")
    static void changedWithinAClass(Check check) {
        check.due("a and e", 1, farOf(check, "a", "e"));
        check.due("f and j", 1, farOf(check, "f", "j"));
        check.due("u and y", 1, farOf(check, "u", "y"));
        check.due("all eight", 8, farOf(check, "aaaaaaaa", "eeeeeeee"));
    }

    @Says(promise = 10, term = 2, text = "else 3.")
    static void changedAcrossClasses(Check check) {
        check.due("e and f", 3, farOf(check, "e", "f"));
        check.due("z is alone", 3, farOf(check, "y", "z"));
        check.due("a and z", 3, farOf(check, "a", "z"));
        check.due("two are cheaper than out and in", 6, farOf(check, "af", "kp"));
    }

    /** Both ways about must cost the same. */
    private static int farOf(Check check, String one, String two) {
        DialectAtlas x = Given.speaker(one, two);
        check.due(two + " to " + one, x.far(0, 1), x.far(1, 0));
        return x.far(0, 1);
    }

    @Says(promise = 10, text = "FAR of two FORMS.")
    static void farOfTwo(Check check) {
        DialectAtlas x = Given.speaker("a", "e", "f");
        check.due("to itself", 0, x.far(2, 2));
        check.due("0 and 2", 3, x.far(0, 2));
        check.due("1 and 2", 3, x.far(1, 2));
        x.undo();
        Given.form(x, "b");
        check.due("0 and another form 2", 1, x.far(0, 2));
        check.due("1 and another form 2", 1, x.far(1, 2));
        check.due("it and itself", 0, x.far(2, 2));
    }

    @Says(promise = 10, text = "BEYOND.")
    static void farOfNoForm(Check check) {
        check.due("no forms at all", Check.BEYOND, new DialectAtlas().far(0, 0));
        DialectAtlas x = Given.speaker("a", "b");
        check.due("the first is 2", Check.BEYOND, x.far(2, 0));
        check.due("the second is 2", Check.BEYOND, x.far(0, 2));
        check.due("the first is -1", Check.BEYOND, x.far(-1, 0));
        check.due("the second is -1", Check.BEYOND, x.far(0, -1));
        check.due("the greatest int, to itself", Check.BEYOND, x.far(Integer.MAX_VALUE, Integer.MAX_VALUE));
    }

    @Says(promise = {11, 14, 15, 20, 21, 22, 26, 27}, term = 2, text = "THINGS are 0 to 5.")
    static void thingsAreFromNullToFive(Check check) {
        DialectAtlas x = Given.line(1, 1, 1);
        Given.form(x, "a");
        Given.form(x, "b");
        x.asked(0, 0, 1);
        for (int thing = 0; thing <= 5; thing++) {
            check.due("an answer for " + thing, thing, x.answer(0, thing, 1));
            check.due("what is said of " + thing, 1, x.says(0, thing, 0));
            check.due("the weight for " + thing, 1, x.weight(0, thing, 1, 0));
            check.due("what explains " + thing, 0, x.explains(0, thing, 1));
            check.due("what covers " + thing, 1, x.covers(0, thing, 1));
            check.due("the border of " + thing, 0, x.border(thing, 0, 1, 0));
            check.due("whom to ask for " + thing, 1, x.next(thing));
            check.due("what is foretold of " + thing, 1, x.foretold(1, thing));
        }
        for (int thing : new int[] {-1, 6, Integer.MIN_VALUE, Integer.MAX_VALUE}) {
            check.due("an answer for " + thing, Check.BEYOND, x.answer(0, thing, 1));
            check.due("what is said of " + thing, Check.BEYOND, x.says(0, thing, 0));
            check.due("the weight for " + thing, Check.BEYOND, x.weight(0, thing, 1, 0));
            check.due("what explains " + thing, Check.BEYOND, x.explains(0, thing, 1));
            check.due("what covers " + thing, Check.BEYOND, x.covers(0, thing, 1));
            check.due("the border of " + thing, Check.BEYOND, x.border(thing, 0, 1, 0));
            check.due("whom to ask for " + thing, Check.BEYOND, x.next(thing));
            check.due("what is foretold of " + thing, Check.BEYOND, x.foretold(1, thing));
        }
    }

    @Says(promise = {11, 13}, term = 2, text = "ANSWERS 0, 1, .. (at most 60)")
    static void theSixtiethIsOneOfThem(Check check) {
        DialectAtlas x = Given.speaker("a", "b");
        for (int i = 0; i < 60; i++) {
            x.answer(0, i % 6, i % 2);
        }
        check.due("how many", 60, x.count(4));
        check.due("the last", 5, x.answerIs(59, 1));
        check.due("one behind the last", Check.BEYOND, x.answerIs(60, 0));
        check.due("the last is the one that is said", 1, x.says(0, 5, 0));
    }

    @Says(promise = {11, 13}, term = 2, text = "one of THE ASKED, a THING, a FORM, the day on which it was told")
    static void answersKeepTheirParts(Check check) {
        DialectAtlas x = Given.speaker("a", "b");
        x.asked(0, 0, 2);
        x.day(7);
        x.answer(1, 5, 1);
        x.day(8);
        check.due("who", 1, x.answerIs(0, 0));
        check.due("thing", 5, x.answerIs(0, 1));
        check.due("form", 1, x.answerIs(0, 2));
        check.due("day", 7, x.answerIs(0, 3));
    }

    @Says(promise = 12, term = 2, text = "each may be TAKEN BACK on a later day, or the same one.")
    static void takenBackOnTheSameDayOrALaterOne(Check check) {
        DialectAtlas x = Given.speaker("a");
        x.answer(0, 0, 0);
        x.answer(0, 1, 0);
        check.due("on the same day", 1, x.take(0));
        check.due("then nothing is said on that day", Check.NONE, x.says(0, 0, 0));
        x.day(999);
        check.due("on the last day", 1, x.take(1));
        check.due("since when", 999, x.answerIs(1, 4));
    }

    @Says(promise = 14, term = 2, text = "As KNOWN on a day: those told up to it")
    static void knownFromItsDayOn(Check check) {
        DialectAtlas x = Given.speaker("a");
        x.day(10);
        x.answer(0, 0, 0);
        check.due("the day ahead", Check.NONE, x.says(0, 0, 9));
        check.due("that day", 0, x.says(0, 0, 10));
        check.due("a day that is still to come", 0, x.says(0, 0, 11));
    }

    @Says(promise = 14, term = 2, text = "not taken back up to it")
    static void knownUpToTheDayAheadOfItsTaking(Check check) {
        DialectAtlas x = Given.speaker("a");
        x.answer(0, 0, 0);
        x.day(20);
        x.take(0);
        check.due("the day ahead", 0, x.says(0, 0, 19));
        check.due("that day", Check.NONE, x.says(0, 0, 20));
        check.due("the day behind", Check.NONE, x.says(0, 0, 21));
    }

    @Says(promise = {14, 15}, term = 2,
            text = "of one and the same who was asked for one THING that which was told last.")
    static void onlyTheLastOfOneWhoWasAsked(Check check) {
        DialectAtlas x = Given.speaker("a", "b", "c");
        x.answer(0, 0, 2);
        x.answer(0, 1, 0);
        x.answer(0, 0, 1);
        check.due("of one day the last", 1, x.says(0, 0, 0));
        check.due("another thing's stays", 0, x.says(0, 1, 0));
        check.due("the earlier one weighs nothing", 0, x.weight(0, 0, 2, 0));
        x.day(5);
        x.answer(0, 0, 0);
        check.due("of two days the last", 0, x.says(0, 0, 5));
        check.due("on the day ahead the one of then", 1, x.says(0, 0, 4));
        x.take(3);
        check.due("it is taken back: the one ahead of it", 1, x.says(0, 0, 5));
        x.take(2);
        check.due("that one, too: the first", 2, x.says(0, 0, 5));
        x.take(0);
        check.due("all of them", Check.NONE, x.says(0, 0, 5));
    }

    @Says(promise = 14, term = 2, text = "A VILLAGE SAYS of a THING, as KNOWN on a day, the FORM with the greatest "
            + "sum of WEIGHTS of THE ASKED who live there and have such an ANSWER")
    static void theGreatestSumIsSaid(Check check) {
        DialectAtlas x = Given.villages(2);
        Given.forms(x, 30);
        x.asked(0, SPEAKER, 3);
        x.asked(0, ELDER, 1);
        x.asked(0, CHILD, 2);
        x.asked(1, TEACHER, 9);
        x.answer(0, 0, 0);
        x.answer(1, 0, 29);
        check.due("3 against 2", 0, x.says(0, 0, 0));
        x.answer(2, 0, 29);
        check.due("3 against 2 and 2", 29, x.says(0, 0, 0));
        x.answer(3, 0, 5);
        check.due("who lives elsewhere does not count", 29, x.says(0, 0, 0));
        check.due("but does there", 5, x.says(1, 0, 0));
    }

    @Says(promise = 14, term = 2, text = "of several the least FORM")
    static void theLeastFormOfLikeSums(Check check) {
        DialectAtlas x = Given.speaker("a", "b", "c");
        x.asked(0, SPEAKER, 1);
        x.answer(0, 0, 2);
        x.answer(1, 0, 1);
        check.due("1 against 1", 1, x.says(0, 0, 0));
    }

    @Says(promise = 14, term = 2, text = "none without such.")
    static void nothingIsSaidWithoutAnAnswer(Check check) {
        DialectAtlas x = Given.villages(2);
        Given.form(x, "a");
        check.due("nobody is asked", Check.NONE, x.says(0, 0, 0));
        x.asked(0, SPEAKER, 1);
        check.due("nobody has answered", Check.NONE, x.says(0, 0, 0));
        x.answer(0, 0, 0);
        check.due("not of this thing", Check.NONE, x.says(0, 1, 0));
        check.due("not in this village", Check.NONE, x.says(1, 0, 0));
    }

    @Says(promise = 11, text = "An ANSWER of TODAY: its number.")
    static void answersAreNumbered(Check check) {
        DialectAtlas x = Given.speaker("a");
        check.due("the first", 0, x.answer(0, 0, 0));
        check.due("one like it", 1, x.answer(0, 0, 0));
        x.day(999);
        check.due("on the last day", 2, x.answer(0, 0, 0));
        check.due("the day of the first", 0, x.answerIs(0, 3));
        check.due("the day of the last", 999, x.answerIs(2, 3));
    }

    @Says(promise = 11, text = "BEYOND: no such one of THE ASKED")
    static void noAnswerOfNobody(Check check) {
        DialectAtlas x = Given.villages(1);
        Given.form(x, "a");
        check.due("nobody at all", Check.BEYOND, x.answer(0, 0, 0));
        x.asked(0, SPEAKER, 1);
        check.due("number 1", Check.BEYOND, x.answer(1, 0, 0));
        check.due("number -1", Check.BEYOND, x.answer(-1, 0, 0));
        check.due("the greatest int", Check.BEYOND, x.answer(Integer.MAX_VALUE, 0, 0));
        check.due("how many", 0, x.count(4));
    }

    @Says(promise = 11, text = "THING")
    static void noAnswerForNoThing(Check check) {
        DialectAtlas x = Given.speaker("a");
        check.due("thing 6", Check.BEYOND, x.answer(0, 6, 0));
        check.due("thing -1", Check.BEYOND, x.answer(0, -1, 0));
        check.due("how many", 0, x.count(4));
        check.due("thing 5", 0, x.answer(0, 5, 0));
    }

    @Says(promise = 11, text = "FORM.")
    static void noAnswerWithNoForm(Check check) {
        DialectAtlas x = Given.speaker();
        check.due("no forms at all", Check.BEYOND, x.answer(0, 0, 0));
        Given.form(x, "a");
        check.due("form 1", Check.BEYOND, x.answer(0, 0, 1));
        check.due("form -1", Check.BEYOND, x.answer(0, 0, -1));
        check.due("how many", 0, x.count(4));
        check.due("form 0", 0, x.answer(0, 0, 0));
    }

    @Says(promise = 11, text = "FULL: there are 60.")
    static void noSixtyFirstAnswer(Check check) {
        DialectAtlas x = Given.speaker("a");
        for (int i = 0; i < 60; i++) {
            check.due("answer " + i, i, x.answer(0, 0, 0));
        }
        check.due("one more", Check.FULL, x.answer(0, 0, 0));
        check.due("how many", 60, x.count(4));
        x.take(0);
        check.due("one that is taken back leaves no room", Check.FULL, x.answer(0, 0, 0));
        x.undo();
        x.undo();
        check.due("one that is undone does", 59, x.answer(0, 0, 0));
    }

    @Says(promise = 12, text = "An ANSWER is TAKEN BACK today: 1.")
    static void takenBackToday(Check check) {
        DialectAtlas x = Given.speaker("a");
        x.answer(0, 0, 0);
        x.answer(0, 1, 0);
        x.day(12);
        check.due("the second", 1, x.take(1));
        check.due("since when", 12, x.answerIs(1, 4));
        check.due("the first is not", -1, x.answerIs(0, 4));
        check.due("there are two still", 2, x.count(4));
        check.due("one stands", 1, x.count(5));
    }

    @Says(promise = 12, text = "BEYOND.")
    static void noSuchAnswerToTake(Check check) {
        check.due("no answers at all", Check.BEYOND, new DialectAtlas().take(0));
        DialectAtlas x = Given.speaker("a");
        x.answer(0, 0, 0);
        check.due("answer 1", Check.BEYOND, x.take(1));
        check.due("answer -1", Check.BEYOND, x.take(-1));
        check.due("the greatest int", Check.BEYOND, x.take(Integer.MAX_VALUE));
        check.due("one stands", 1, x.count(5));
    }

    @Says(promise = 12, text = "TAKEN: it is.")
    static void takenAlready(Check check) {
        DialectAtlas x = Given.speaker("a");
        x.answer(0, 0, 0);
        x.take(0);
        check.due("on the same day", Check.TAKEN, x.take(0));
        x.day(9);
        check.due("on a later day", Check.TAKEN, x.take(0));
        check.due("the day stays", 0, x.answerIs(0, 4));
    }

    @Says(promise = 13, text = "Of an ANSWER: 0 who was asked, 1 THING, 2 FORM, 3 the day")
    static void partsOfAnAnswer(Check check) {
        DialectAtlas x = Given.villages(1);
        Given.forms(x, 30);
        for (int i = 0; i < 20; i++) {
            x.asked(0, SPEAKER, 1);
        }
        x.day(999);
        x.answer(19, 5, 29);
        int[] due = {19, 5, 29, 999};
        for (int what = 0; what < 4; what++) {
            check.due("what " + what, due[what], x.answerIs(0, what));
        }
    }

    @Says(promise = 13, text = "4 since when it is TAKEN BACK (-1: it is not; no finding).")
    static void sinceWhenItIsTakenBack(Check check) {
        DialectAtlas x = Given.speaker("a");
        x.answer(0, 0, 0);
        x.answer(0, 0, 0);
        check.due("it is not", -1, x.answerIs(0, 4));
        check.due("no finding is counted", 0, x.count(8));
        x.take(0);
        check.due("since day 0", 0, x.answerIs(0, 4));
        x.day(999);
        x.take(1);
        check.due("since day 999", 999, x.answerIs(1, 4));
    }

    @Says(promise = 13, text = "BEYOND: no such ANSWER")
    static void noPartOfNoAnswer(Check check) {
        check.due("no answers at all", Check.BEYOND, new DialectAtlas().answerIs(0, 4));
        DialectAtlas x = Given.speaker("a");
        x.answer(0, 0, 0);
        check.due("answer 1", Check.BEYOND, x.answerIs(1, 0));
        check.due("answer -1", Check.BEYOND, x.answerIs(-1, 0));
        check.due("the least int", Check.BEYOND, x.answerIs(Integer.MIN_VALUE, 0));
    }

    @Says(promise = 13, text = "or another what.")
    static void noOtherPart(Check check) {
        DialectAtlas x = Given.speaker("a");
        x.answer(0, 0, 0);
        check.due("what 5", Check.BEYOND, x.answerIs(0, 5));
        check.due("what -1", Check.BEYOND, x.answerIs(0, -1));
        check.due("the greatest int", Check.BEYOND, x.answerIs(0, Integer.MAX_VALUE));
    }

    @Says(promise = 14, text = "What a VILLAGE SAYS of a THING, as KNOWN on a day (0 to 999).")
    static void saidOnTheFirstAndTheLastDay(Check check) {
        DialectAtlas x = Given.speaker("a", "b");
        x.answer(0, 0, 0);
        x.day(999);
        x.answer(0, 0, 1);
        check.due("day 0", 0, x.says(0, 0, 0));
        check.due("day 998", 0, x.says(0, 0, 998));
        check.due("day 999", 1, x.says(0, 0, 999));
    }

    @Says(promise = 14, text = "BEYOND.")
    static void nothingIsSaidOutside(Check check) {
        check.due("no villages at all", Check.BEYOND, new DialectAtlas().says(0, 0, 0));
        DialectAtlas x = Given.speaker("a");
        x.answer(0, 0, 0);
        check.due("village 1", Check.BEYOND, x.says(1, 0, 0));
        check.due("village -1", Check.BEYOND, x.says(-1, 0, 0));
        check.due("thing 6", Check.BEYOND, x.says(0, 6, 0));
        check.due("thing -1", Check.BEYOND, x.says(0, -1, 0));
        check.due("day 1000", Check.BEYOND, x.says(0, 0, 1000));
        check.due("day -1", Check.BEYOND, x.says(0, 0, -1));
        check.due("the greatest int as a day", Check.BEYOND, x.says(0, 0, Integer.MAX_VALUE));
    }

    @Says(promise = 14, text = "NONE: nothing.")
    static void saysNothing(Check check) {
        DialectAtlas x = Given.speaker("a");
        check.due("ahead of an answer", Check.NONE, x.says(0, 0, 999));
        x.answer(0, 0, 0);
        check.due("form 0 is something", 0, x.says(0, 0, 0));
        x.take(0);
        check.due("taken back", Check.NONE, x.says(0, 0, 999));
    }

    @Says(promise = 15, text = "The sum of WEIGHTS in a VILLAGE for a FORM of a THING, as KNOWN on a day.")
    static void sumsOfWeights(Check check) {
        DialectAtlas x = Given.villages(2);
        Given.form(x, "a");
        Given.form(x, "b");
        for (int kind = 0; kind < 4; kind++) {
            x.asked(kind == TEACHER ? 1 : 0, kind, 3);
            x.answer(kind, 2, 0);
        }
        check.due("3, 6 and 2", 11, x.weight(0, 2, 0, 0));
        check.due("a teacher", 11, x.weight(1, 2, 0, 0));
        check.due("a form that nobody tells", 0, x.weight(0, 2, 1, 0));
        check.due("another thing", 0, x.weight(0, 1, 0, 0));
        x.day(4);
        x.take(1);
        check.due("the elder's is taken back", 5, x.weight(0, 2, 0, 4));
        check.due("on the day ahead it is not", 11, x.weight(0, 2, 0, 3));
        check.due("on the last day", 5, x.weight(0, 2, 0, 999));
    }

    @Says(promise = 15, text = "The sum of WEIGHTS in a VILLAGE")
    static void theGreatestSumOfWeights(Check check) {
        DialectAtlas x = Given.villages(1);
        Given.form(x, "a");
        for (int who = 0; who < 20; who++) {
            x.asked(0, TEACHER, 9);
            x.answer(who, 0, 0);
        }
        check.due("twenty teachers", 700, x.weight(0, 0, 0, 0));
    }

    @Says(promise = 15, text = "BEYOND.")
    static void noWeightOutside(Check check) {
        check.due("no villages at all", Check.BEYOND, new DialectAtlas().weight(0, 0, 0, 0));
        DialectAtlas x = Given.speaker("a");
        x.answer(0, 0, 0);
        check.due("village 1", Check.BEYOND, x.weight(1, 0, 0, 0));
        check.due("village -1", Check.BEYOND, x.weight(-1, 0, 0, 0));
        check.due("thing 6", Check.BEYOND, x.weight(0, 6, 0, 0));
        check.due("thing -1", Check.BEYOND, x.weight(0, -1, 0, 0));
        check.due("form 1", Check.BEYOND, x.weight(0, 0, 1, 0));
        check.due("form -1", Check.BEYOND, x.weight(0, 0, -1, 0));
        check.due("day 1000", Check.BEYOND, x.weight(0, 0, 0, 1000));
        check.due("day -1", Check.BEYOND, x.weight(0, 0, 0, -1));
    }
}
