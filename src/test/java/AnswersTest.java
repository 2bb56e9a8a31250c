/** Promises 6 to 15: the asked, forms, answers, what villages say. */
public final class AnswersTest {
    private static final Check CHECK = new Check();

    public static void main(String[] args) {
        asked();
        kinds();
        forms();
        sounds();
        far();
        answers();
        taking();
        says();
        lastTold();
        weights();
        CHECK.end();
    }

    private static void asked() {
        DialectAtlas x = new DialectAtlas();
        CHECK.due("6: no village", Check.BEYOND, x.asked(0, 0, 1));
        x.village(0, 1);
        CHECK.due("6: kind 4", Check.BEYOND, x.asked(0, 4, 1));
        CHECK.due("6: kind -1", Check.BEYOND, x.asked(0, -1, 1));
        CHECK.due("6: trust 0", Check.BEYOND, x.asked(0, 0, 0));
        CHECK.due("6: trust 10", Check.BEYOND, x.asked(0, 0, 10));
        CHECK.due("6: village -1", Check.BEYOND, x.asked(-1, 0, 1));
        for (int i = 0; i < 20; i++) {
            CHECK.due("6: number " + i, i, x.asked(0, i % 4, 1 + i % 9));
        }
        CHECK.due("6: one more", Check.FULL, x.asked(0, 0, 1));
        CHECK.due("6: BEYOND ahead of FULL", Check.BEYOND, x.asked(1, 0, 1));
        CHECK.due("6: there are 20", 20, x.count(2));
    }

    private static void kinds() {
        int[][] weights = {
            {1, 2, 3, 4, 5, 6, 7, 8, 9}, {2, 4, 6, 8, 10, 12, 14, 16, 18},
            {1, 2, 2, 3, 3, 4, 4, 5, 5}, {3, 7, 11, 15, 19, 23, 27, 31, 35}};
        boolean[][] isUnder = {
            {true, false, false, false}, {true, true, false, false},
            {true, false, true, false}, {true, true, false, true}};
        for (int own = 0; own < 4; own++) {
            DialectAtlas x = new DialectAtlas();
            x.village(0, 1);
            for (int trust = 1; trust <= 9; trust++) {
                int who = x.asked(0, own, trust);
                for (int kind = 0; kind < 4; kind++) {
                    int due = isUnder[own][kind] ? weights[own][trust - 1] : Check.KIND;
                    CHECK.due("7: kind " + own + " of trust " + trust + " as " + kind, due, x.as(who, kind));
                }
            }
            CHECK.due("7: kind 4", Check.BEYOND, x.as(0, 4));
            CHECK.due("7: kind -1", Check.BEYOND, x.as(0, -1));
            CHECK.due("7: no such one", Check.BEYOND, x.as(9, 0));
            CHECK.due("7: number -1", Check.BEYOND, x.as(-1, 0));
        }
    }

    private static void forms() {
        DialectAtlas x = new DialectAtlas();
        CHECK.due("8: size 0", Check.BEYOND, x.form(0, 0));
        CHECK.due("8: size 9", Check.BEYOND, x.form(9, 0));
        CHECK.due("8: size -1", Check.BEYOND, x.form(-1, 0));
        CHECK.due("8: the first byte is 26", Check.BEYOND, x.form(1, 26));
        CHECK.due("8: the first byte is 255", Check.BEYOND, x.form(1, -1));
        CHECK.due("8: the last byte is 26", Check.BEYOND, x.form(8, 26L << 56));
        CHECK.due("8: the last byte is 128", Check.BEYOND, x.form(8, 128L << 56));
        CHECK.due("8: none was made", 0, x.count(3));
        CHECK.due("8: a", 0, Check.form(x, "a"));
        CHECK.due("8: aa is another one", 1, Check.form(x, "aa"));
        CHECK.due("8: z", 2, Check.form(x, "z"));
        CHECK.due("8: ab", 3, Check.form(x, "ab"));
        CHECK.due("8: ba is another one", 4, Check.form(x, "ba"));
        CHECK.due("8: one that is like it", 3, Check.form(x, "ab"));
        CHECK.due("8: higher bytes do not count", 0, x.form(1, 0xffffff00L));
        CHECK.due("8: eight sounds", 5, Check.form(x, "abcdefgz"));
        CHECK.due("8: the same again", 5, Check.form(x, "abcdefgz"));
        for (int i = 6; i < 30; i++) {
            CHECK.due("8: form " + i, i, x.form(3, i % 26 | i << 8 & 0xf00 | 0x10000));
        }
        CHECK.due("8: one more", Check.FULL, Check.form(x, "zzz"));
        CHECK.due("8: BEYOND ahead of FULL", Check.BEYOND, x.form(1, 26));
        CHECK.due("8: one that is there needs no room", 4, Check.form(x, "ba"));
        CHECK.due("8: there are 30", 30, x.count(3));
    }

    private static void sounds() {
        DialectAtlas x = new DialectAtlas();
        CHECK.due("9: no form", Check.BEYOND, x.sound(0, -1));
        Check.form(x, "zyxcba");
        Check.form(x, "m");
        CHECK.due("9: how many", 6, x.sound(0, -1));
        CHECK.due("9: the first", 25, x.sound(0, 0));
        CHECK.due("9: the second", 24, x.sound(0, 1));
        CHECK.due("9: the last", 0, x.sound(0, 5));
        CHECK.due("9: behind the last", Check.BEYOND, x.sound(0, 6));
        CHECK.due("9: -2", Check.BEYOND, x.sound(0, -2));
        CHECK.due("9: another form", 12, x.sound(1, 0));
        CHECK.due("9: behind its only one", Check.BEYOND, x.sound(1, 1));
        CHECK.due("9: form 2", Check.BEYOND, x.sound(2, 0));
        CHECK.due("9: form -1", Check.BEYOND, x.sound(-1, 0));
    }

    private static void far() {
        DialectAtlas x = new DialectAtlas();
        int none = Check.form(x, "a");
        CHECK.due("10: to itself", 0, x.far(none, none));
        CHECK.due("10: one class, a and e", 1, farOf(x, "a", "e"));
        CHECK.due("10: two classes, e and f", 3, farOf(x, "e", "f"));
        CHECK.due("10: z is alone", 3, farOf(x, "y", "z"));
        CHECK.due("10: u and y", 1, farOf(x, "u", "y"));
        CHECK.due("10: put in", 2, farOf(x, "ab", "akb"));
        CHECK.due("10: taken out at the end", 4, farOf(x, "abzz", "ab"));
        CHECK.due("10: moved by one: out and in again", 4, farOf(x, "kabab", "ababz"));
        CHECK.due("10: changes across are better than out and in", 6, farOf(x, "af", "kp"));
        CHECK.due("10: one to eight", 14, farOf(x, "a", "aaaaaaaa"));
        CHECK.due("10: one to eight others", 17, farOf(x, "z", "aaaaaaaa"));
        CHECK.due("10: eight to eight", 24, farOf(x, "aaaaaaaa", "zzzzzzzz"));
        CHECK.due("10: the kite", 5, farOf(x, "kite", "bit"));
        CHECK.due("10: no such form", Check.BEYOND, x.far(0, 99));
        CHECK.due("10: form -1", Check.BEYOND, x.far(-1, 0));
    }

    /** Both ways about must cost the same. */
    private static int farOf(DialectAtlas x, String one, String two) {
        int first = Check.form(x, one);
        int second = Check.form(x, two);
        CHECK.due("10: " + two + " to " + one, x.far(first, second), x.far(second, first));
        return x.far(first, second);
    }

    private static void answers() {
        DialectAtlas x = new DialectAtlas();
        CHECK.due("11: nobody", Check.BEYOND, x.answer(0, 0, 0));
        x.village(0, 1);
        x.asked(0, 0, 1);
        x.asked(0, 0, 2);
        CHECK.due("11: no form", Check.BEYOND, x.answer(0, 0, 0));
        Check.form(x, "a");
        Check.form(x, "b");
        CHECK.due("11: thing 6", Check.BEYOND, x.answer(0, 6, 0));
        CHECK.due("11: thing -1", Check.BEYOND, x.answer(0, -1, 0));
        CHECK.due("11: who 2", Check.BEYOND, x.answer(2, 0, 0));
        CHECK.due("11: form -1", Check.BEYOND, x.answer(0, 0, -1));
        x.day(7);
        CHECK.due("11: the first", 0, x.answer(1, 5, 1));
        CHECK.due("13: who", 1, x.answerIs(0, 0));
        CHECK.due("13: thing", 5, x.answerIs(0, 1));
        CHECK.due("13: form", 1, x.answerIs(0, 2));
        CHECK.due("13: day", 7, x.answerIs(0, 3));
        CHECK.due("13: not taken back", -1, x.answerIs(0, 4));
        CHECK.due("13: what 5", Check.BEYOND, x.answerIs(0, 5));
        CHECK.due("13: what -1", Check.BEYOND, x.answerIs(0, -1));
        CHECK.due("13: answer 1", Check.BEYOND, x.answerIs(1, 0));
        CHECK.due("13: answer -1", Check.BEYOND, x.answerIs(-1, 0));
        for (int i = 1; i < 60; i++) {
            CHECK.due("11: answer " + i, i, x.answer(0, 0, 0));
        }
        CHECK.due("11: one more", Check.FULL, x.answer(0, 0, 0));
        CHECK.due("11: BEYOND ahead of FULL", Check.BEYOND, x.answer(0, 0, 2));
        CHECK.due("11: there are 60", 60, x.count(4));
        CHECK.due("13: -1 is no finding", 12, x.count(8));
    }

    private static void taking() {
        DialectAtlas x = new DialectAtlas();
        CHECK.due("12: none", Check.BEYOND, x.take(0));
        x.village(0, 1);
        x.asked(0, 0, 1);
        Check.form(x, "a");
        x.answer(0, 0, 0);
        x.answer(0, 1, 0);
        CHECK.due("12: answer -1", Check.BEYOND, x.take(-1));
        CHECK.due("12: answer 2", Check.BEYOND, x.take(2));
        CHECK.due("12: on the same day", 1, x.take(0));
        CHECK.due("12: it is", Check.TAKEN, x.take(0));
        CHECK.due("12: since day 0", 0, x.answerIs(0, 4));
        x.day(999);
        CHECK.due("12: on a later day", 1, x.take(1));
        CHECK.due("12: since day 999", 999, x.answerIs(1, 4));
        CHECK.due("12: still taken", Check.TAKEN, x.take(0));
        CHECK.due("12: the day stays", 0, x.answerIs(0, 4));
        CHECK.due("12: none stands", 0, x.count(5));
        CHECK.due("12: there are two still", 2, x.count(4));
    }

    private static void says() {
        DialectAtlas x = new DialectAtlas();
        x.village(0, 1);
        x.village(1, 1);
        x.asked(0, 0, 4);
        x.asked(0, 1, 2);
        x.asked(0, 2, 9);
        x.asked(1, 3, 9);
        Check.form(x, "a");
        Check.form(x, "b");
        Check.form(x, "c");
        CHECK.due("14: nothing", Check.NONE, x.says(0, 0, 0));
        x.answer(0, 0, 2);
        x.answer(1, 0, 1);
        CHECK.due("14: of two like sums the least form", 1, x.says(0, 0, 0));
        x.answer(2, 0, 2);
        CHECK.due("14: the greatest sum", 2, x.says(0, 0, 0));
        x.answer(3, 0, 0);
        CHECK.due("14: others' answers do not count", 2, x.says(0, 0, 0));
        CHECK.due("14: the other village", 0, x.says(1, 0, 0));
        CHECK.due("14: another thing", Check.NONE, x.says(0, 1, 0));
        CHECK.due("14: the last day", 2, x.says(0, 0, 999));
        CHECK.due("14: day 1000", Check.BEYOND, x.says(0, 0, 1000));
        CHECK.due("14: day -1", Check.BEYOND, x.says(0, 0, -1));
        CHECK.due("14: thing 6", Check.BEYOND, x.says(0, 6, 0));
        CHECK.due("14: village 2", Check.BEYOND, x.says(2, 0, 0));
        CHECK.due("14: village -1", Check.BEYOND, x.says(-1, 0, 0));
    }

    private static void lastTold() {
        DialectAtlas x = new DialectAtlas();
        x.village(0, 1);
        x.asked(0, 0, 9);
        x.asked(0, 0, 5);
        Check.form(x, "a");
        Check.form(x, "b");
        Check.form(x, "c");
        x.day(10);
        x.answer(0, 0, 0);
        x.answer(1, 0, 1);
        CHECK.due("14: not told yet", Check.NONE, x.says(0, 0, 9));
        CHECK.due("14: told on that day", 0, x.says(0, 0, 10));
        x.day(20);
        x.answer(0, 0, 2);
        CHECK.due("14: told last", 2, x.says(0, 0, 20));
        CHECK.due("14: a day ahead of that", 0, x.says(0, 0, 19));
        x.answer(0, 0, 1);
        CHECK.due("14: of one day the last", 14, x.weight(0, 0, 1, 20));
        CHECK.due("15: only one of each who was asked", 0, x.weight(0, 0, 2, 20));
        x.day(30);
        x.take(3);
        CHECK.due("14: the one ahead of one taken back", 2, x.says(0, 0, 30));
        CHECK.due("14: on the day ahead it is not taken back", 1, x.says(0, 0, 29));
        x.take(2);
        x.take(0);
        CHECK.due("14: only the other one's is left", 1, x.says(0, 0, 30));
        x.take(1);
        CHECK.due("14: all are taken back", Check.NONE, x.says(0, 0, 30));
        CHECK.due("14: and were said up to then", 1, x.says(0, 0, 29));
    }

    private static void weights() {
        DialectAtlas x = new DialectAtlas();
        x.village(0, 1);
        x.village(0, 1);
        x.asked(0, 0, 3);
        x.asked(0, 1, 3);
        x.asked(0, 2, 3);
        x.asked(1, 3, 3);
        Check.form(x, "a");
        Check.form(x, "b");
        for (int who = 0; who < 4; who++) {
            x.answer(who, 2, 0);
        }
        CHECK.due("15: 3, 6 and 2", 11, x.weight(0, 2, 0, 0));
        CHECK.due("15: a teacher", 11, x.weight(1, 2, 0, 0));
        CHECK.due("15: another form", 0, x.weight(0, 2, 1, 0));
        CHECK.due("15: another thing", 0, x.weight(0, 1, 0, 0));
        CHECK.due("15: no such form", Check.BEYOND, x.weight(0, 2, 2, 0));
        CHECK.due("15: no such village", Check.BEYOND, x.weight(2, 2, 0, 0));
        CHECK.due("15: no such thing", Check.BEYOND, x.weight(0, 6, 0, 0));
        CHECK.due("15: no such day", Check.BEYOND, x.weight(0, 2, 0, 1000));
        CHECK.due("15: day -1", Check.BEYOND, x.weight(0, 2, 0, -1));
    }
}
