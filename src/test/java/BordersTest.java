import java.util.Random;

/** Promises 22 to 25: borders, distances, dialects, and whether a sheet proves them. */
public final class BordersTest {
    private static final Check CHECK = new Check();

    public static void main(String[] args) {
        directions();
        liesAndTies();
        borderFindings();
        distances();
        dialects();
        dialectFindings();
        proving();
        provingFindings();
        denseRuns();
        CHECK.end();
    }

    /** Each of these can be parted without a lie by one direction alone. */
    private static void directions() {
        border("1 0", new int[][] {{5, 0, 1}, {6, 0, 2}}, 0, 0, 6, 0);
        border("1 0 at 0", new int[][] {{0, 0, 2}, {99, 0, 1}}, 0, 0, 1, 1);
        border("0 1", new int[][] {{7, 99, 2}, {7, 98, 1}}, 0, 1, 99, 0);
        border("1 1", new int[][] {{0, 9, 1}, {9, 0, 1}, {1, 9, 2}, {9, 1, 2}, {0, 10, 2}, {10, 0, 2}}, 0, 2, 10, 0);
        border("1 -1", new int[][] {{0, 21, 1}, {50, 71, 1}, {1, 20, 2}, {51, 70, 2}}, 0, 3, -20, 0);
        border("2 1", new int[][] {{0, 80, 1}, {20, 40, 1}, {40, 0, 1}, {0, 81, 2}, {20, 41, 2}, {40, 1, 2}}, 0, 4, 81, 0);
        border("1 2", new int[][] {{80, 0, 1}, {40, 20, 1}, {0, 40, 1}, {81, 0, 2}, {41, 20, 2}, {1, 40, 2}}, 0, 5, 81, 0);
        border("2 -1", new int[][] {{0, 10, 1}, {20, 50, 1}, {40, 90, 1}, {0, 11, 2}, {20, 51, 2}, {40, 91, 2}},
                0, 6, -10, 1);
        border("1 -2", new int[][] {{10, 0, 1}, {50, 20, 1}, {90, 40, 1}, {11, 0, 2}, {51, 20, 2}, {91, 40, 2}},
                0, 7, 11, 0);
    }

    private static void liesAndTies() {
        border("no villages", new int[0][], 0, 0, -200, 0);
        border("none says either", new int[][] {{1, 1, 3}, {2, 2, 0}}, 0, 0, -200, 0);
        border("all say the second one", new int[][] {{1, 1, 2}, {9, 9, 2}}, 0, 0, -200, 0);
        border("all say the first one", new int[][] {{1, 1, 1}, {9, 9, 1}}, 0, 0, -200, 1);
        border("the least folk lie", new int[][] {{3, 3, 1, 4}, {3, 3, 2, 7}}, 4, 0, -200, 0);
        border("the least folk lie, the second one's", new int[][] {{3, 3, 1, 7}, {3, 3, 2, 4}}, 4, 0, -200, 1);
        border("a cross", new int[][] {{0, 0, 1, 5}, {9, 9, 1, 5}, {0, 9, 2, 3}, {9, 0, 2, 9}}, 3, 3, 1, 0);
        border("others do not count", new int[][] {{0, 0, 1}, {5, 0, 3, 999}, {9, 0, 2}}, 0, 0, 1, 0);
    }

    /** Villages as x, y, the form they say (0: none, 1 the first, 2 the second, 3 another one) and, perhaps, folk. */
    private static void border(String name, int[][] villages, int lies, int direction, int t, int side) {
        DialectAtlas x = new DialectAtlas();
        Check.form(x, "x");
        Check.form(x, "a");
        Check.form(x, "b");
        for (int[] v : villages) {
            int number = x.village(100 * v[0] + v[1], v.length > 3 ? v[3] : 1);
            if (v[2] > 0) {
                x.answer(x.asked(number, 0, 1), 5, v[2] % 3);
            }
        }
        CHECK.due("22: lies, " + name, lies, x.border(5, 1, 2, 0));
        CHECK.due("22: direction, " + name, direction, x.border(5, 1, 2, 1));
        CHECK.due("22: t, " + name, t, x.border(5, 1, 2, 2));
        CHECK.due("22: side, " + name, side, x.border(5, 1, 2, 3));
        CHECK.due("22: no finding, " + name, 0, x.count(8));
    }

    private static void borderFindings() {
        DialectAtlas x = new DialectAtlas();
        CHECK.due("22: no forms", Check.BEYOND, x.border(0, 0, 0, 0));
        Check.form(x, "a");
        Check.form(x, "b");
        CHECK.due("22: thing 6", Check.BEYOND, x.border(6, 0, 1, 0));
        CHECK.due("22: thing -1", Check.BEYOND, x.border(-1, 0, 1, 0));
        CHECK.due("22: form 2", Check.BEYOND, x.border(0, 0, 2, 0));
        CHECK.due("22: form -1", Check.BEYOND, x.border(0, -1, 1, 0));
        CHECK.due("22: what 4", Check.BEYOND, x.border(0, 0, 1, 4));
        CHECK.due("22: what -1", Check.BEYOND, x.border(0, 0, 1, -1));
        CHECK.due("22: they are one", Check.SIZE, x.border(0, 1, 1, 0));
        CHECK.due("22: BEYOND ahead of SIZE", Check.BEYOND, x.border(0, 1, 1, 4));
    }

    private static void distances() {
        DialectAtlas x = new DialectAtlas();
        CHECK.due("23: no village", Check.BEYOND, x.distance(0, 0, 0));
        x.village(0, 1);
        x.village(0, 1);
        x.asked(0, 0, 1);
        x.asked(1, 0, 1);
        Check.form(x, "a");
        Check.form(x, "e");
        Check.form(x, "zz");
        CHECK.due("23: nothing said", 0, x.distance(0, 1, 0));
        x.answer(0, 0, 0);
        CHECK.due("23: said by one alone", 0, x.distance(0, 1, 0));
        x.answer(1, 0, 1);
        CHECK.due("23: one thing", 1, x.distance(0, 1, 0));
        x.day(3);
        x.answer(0, 5, 2);
        x.answer(1, 5, 0);
        x.answer(0, 2, 2);
        x.answer(1, 3, 0);
        CHECK.due("23: two things", 6, x.distance(1, 0, 3));
        CHECK.due("23: as known on an earlier day", 1, x.distance(1, 0, 2));
        CHECK.due("23: as known on a later day", 6, x.distance(0, 1, 999));
        CHECK.due("23: to itself", 0, x.distance(0, 0, 3));
        CHECK.due("23: day 1000", Check.BEYOND, x.distance(0, 1, 1000));
        CHECK.due("23: day -1", Check.BEYOND, x.distance(0, 1, -1));
        CHECK.due("23: village 2", Check.BEYOND, x.distance(0, 2, 0));
        CHECK.due("23: village -1", Check.BEYOND, x.distance(-1, 0, 0));
    }

    /** One village for each form, each saying it of thing 0. */
    private static DialectAtlas speakers(String... forms) {
        DialectAtlas x = new DialectAtlas();
        for (String form : forms) {
            int v = x.village(0, 1);
            if (!form.isEmpty()) {
                x.answer(x.asked(v, 0, 1), 0, Check.form(x, form));
            }
        }
        return x;
    }

    private static void dialects() {
        parting(speakers("a", "e", "z"), 1, 12, 0, 0, 0);
        parting(speakers("a", "e", "z"), 2, 11, 0, 0, 1);
        parting(speakers("a", "e", "z"), 4, 11, 0, 0, 1);
        parting(speakers("a", "kf"), 4, 10, 0, 0);
        parting(speakers("a", "kfk"), 4, 10, 0, 1);
        parting(speakers(""), 3, 5, 0);
        parting(speakers("", "aaaa", "zzzz", "", "aaaa"), 4, 10, 0, 0, 1, 0, 0);
        String[] five = {"aaaaaaaa", "ffffffff", "kkkkkkkk", "pppppppp", "uuuuuuuu"};
        parting(speakers(five), 1, 245, 0, 0, 0, 0, 0);
        parting(speakers(five), 2, 106, 0, 0, 0, 1, 1);
        parting(speakers(five), 3, 63, 0, 0, 1, 1, 2);
        parting(speakers(five), 4, 44, 0, 0, 1, 2, 3);
        parting(speakers("aaaa", "zzzz", "ffff", "pppp", "aaaa", "zzzz", "ffff", "pppp", "aaab", "zzzz"), 4, 22,
                0, 1, 2, 3, 0, 1, 2, 3, 0, 1);
    }

    private static void parting(DialectAtlas x, int k, int sum, int... row) {
        CHECK.due("24: the sum", sum, x.dialects(k, -1));
        x.sheet(0, 8, row.length);
        for (int v = 0; v < row.length; v++) {
            CHECK.due("24: the dialect of " + v + " with k " + k, row[v], x.dialects(k, v));
            x.put(0, v, row[v]);
        }
        CHECK.due("25: it proves its sum", -1, x.proves(0, sum));
        CHECK.due("25: and no less", 100, x.proves(0, sum - 1));
        CHECK.due("24: behind the last", Check.BEYOND, x.dialects(k, row.length));
    }

    private static void dialectFindings() {
        DialectAtlas x = new DialectAtlas();
        CHECK.due("24: no villages", Check.NONE, x.dialects(1, -1));
        CHECK.due("24: BEYOND ahead of NONE", Check.BEYOND, x.dialects(1, 0));
        CHECK.due("24: k 0", Check.BEYOND, x.dialects(0, -1));
        CHECK.due("24: k 5", Check.BEYOND, x.dialects(5, -1));
        CHECK.due("24: what -2", Check.BEYOND, x.dialects(1, -2));
        for (int v = 0; v < 10; v++) {
            x.village(v, 1);
        }
        CHECK.due("24: ten", 5, x.dialects(4, -1));
        x.village(10, 1);
        CHECK.due("24: eleven", Check.SIZE, x.dialects(4, 10));
        CHECK.due("24: BEYOND ahead of SIZE", Check.BEYOND, x.dialects(4, 11));
        CHECK.due("24: k is BEYOND with eleven", Check.BEYOND, x.dialects(5, 0));
    }

    private static void proving() {
        DialectAtlas x = speakers("a", "e", "z", "z", "a");
        x.sheet(3, 8, 5);
        // All in one: a e z z a has 1 + 3 + 3 + 0 + 3 + 3 + 1 + 0 + 3 + 3 of distances.
        CHECK.due("25: in one", -1, x.proves(3, 25));
        CHECK.due("25: the sum is above v", 100, x.proves(3, 24));
        CHECK.due("25: v may be below 0", 100, x.proves(3, Integer.MIN_VALUE));
        x.put(3, 2, 1);
        x.put(3, 3, 1);
        CHECK.due("25: in two", -1, x.proves(3, 12));
        CHECK.due("25: not less", 100, x.proves(3, 11));
        x.put(3, 3, 2);
        x.put(3, 4, 3);
        CHECK.due("25: four of them", -1, x.proves(3, 21));
        x.put(3, 1, 4);
        CHECK.due("25: the first that can't stand there", 1, x.proves(3, 99));
        x.put(3, 0, 1);
        CHECK.due("25: village 0 is in dialect 0", 0, x.proves(3, 99));
        x.put(3, 0, -1);
        CHECK.due("25: below 0", 0, x.proves(3, 99));
        DialectAtlas y = speakers("a", "a", "a", "a", "a", "a");
        y.sheet(0, 32, 6);
        for (int v = 0; v < 5; v++) {
            y.put(0, v, v);
        }
        CHECK.due("25: a fifth dialect", 4, y.proves(0, 99));
        y.put(0, 4, 3);
        CHECK.due("25: four are fine", -1, y.proves(0, 20));
        y.put(0, 5, 65536);
        CHECK.due("25: a great number", 5, y.proves(0, 20));
    }

    private static void provingFindings() {
        DialectAtlas x = new DialectAtlas();
        CHECK.due("25: sheet 4", Check.BEYOND, x.proves(4, 0));
        CHECK.due("25: sheet -1", Check.BEYOND, x.proves(-1, 0));
        CHECK.due("25: missing", Check.MISSING, x.proves(0, 0));
        x.sheet(0, 8, 0);
        CHECK.due("25: no villages, no numbers", -1, x.proves(0, 0));
        CHECK.due("25: their sum is 0", 100, x.proves(0, -1));
        x.sheet(0, 8, 3);
        x.put(0, 0, 9);
        CHECK.due("25: numbers without villages", 3, x.proves(0, 0));
        for (int v = 0; v < 10; v++) {
            x.village(v, 1);
        }
        CHECK.due("25: a wrong number is told ahead of how many", 0, x.proves(0, 99));
        x.put(0, 0, 0);
        CHECK.due("25: too few", 3, x.proves(0, 99));
        x.sheet(0, 8, 20);
        x.put(0, 10, 9);
        CHECK.due("25: too many; those behind are not looked at", 20, x.proves(0, 99));
        x.put(0, 9, 9);
        CHECK.due("25: those ahead are", 9, x.proves(0, 99));
        x.village(0, 1);
        CHECK.due("25: eleven villages", Check.SIZE, x.proves(0, 99));
        CHECK.due("25: MISSING ahead of SIZE", Check.MISSING, x.proves(1, 99));
        CHECK.due("25: BEYOND ahead of both", Check.BEYOND, x.proves(4, 99));
    }

    /** Every village says something, so that borders and dialects are hard to find; held against PlainAtlas. */
    private static void denseRuns() {
        Random random = new Random(22);
        for (int run = 0; run < 60; run++) {
            DialectAtlas x = new DialectAtlas();
            PlainAtlas plain = new PlainAtlas();
            int villages = 2 + random.nextInt(run % 2 == 0 ? 11 : 9);
            int side = run % 3 == 0 ? 4 : 100;
            int forms = 2 + random.nextInt(4);
            for (int f = 0; f < forms; f++) {
                int size = 1 + random.nextInt(3);
                long sounds = random.nextInt(26) | random.nextInt(26) << 8 | random.nextInt(26) << 16;
                x.form(size, sounds);
                plain.form(size, sounds);
            }
            for (int v = 0; v < villages; v++) {
                int place = 100 * random.nextInt(side) + random.nextInt(side);
                int folk = 1 + random.nextInt(run % 5 == 0 ? 2 : 999);
                x.village(place, folk);
                plain.village(place, folk);
                x.asked(v, 0, 1);
                plain.asked(v, 0, 1);
                for (int thing = 0; thing < 2; thing++) {
                    int form = random.nextInt(x.count(3));
                    x.answer(v, thing, form);
                    plain.answer(v, thing, form);
                }
            }
            compare(run, x, plain);
        }
    }

    private static void compare(int run, DialectAtlas x, PlainAtlas plain) {
        for (int thing = 0; thing < 2; thing++) {
            for (int what = 0; what < 4; what++) {
                CHECK.due("22: dense run " + run, plain.border(thing, 0, 1, what), x.border(thing, 0, 1, what));
                CHECK.due("22: dense run " + run, plain.border(thing, 1, 0, what), x.border(thing, 1, 0, what));
            }
        }
        for (int k = 1; k <= 4 && x.count(0) < 9; k++) {
            for (int what = -1; what < x.count(0); what++) {
                CHECK.due("24: dense run " + run, plain.dialects(k, what), x.dialects(k, what));
            }
        }
    }
}
