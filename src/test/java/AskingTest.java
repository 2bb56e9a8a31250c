/** Promises 26 to 30: whom to ask next, what is foretold, rounds, how a form spreads and its seeds. */
public final class AskingTest {
    private static final Check CHECK = new Check();

    public static void main(String[] args) {
        next();
        nextTies();
        foretold();
        rounds();
        roundFindings();
        spread();
        seeds();
        seedFindings();
        CHECK.end();
    }

    private static DialectAtlas line(int lengths, int... folk) {
        DialectAtlas x = new DialectAtlas();
        for (int v = 0; v < folk.length; v++) {
            x.village(v, folk[v]);
            x.asked(v, 0, 1);
            if (v > 0) {
                x.road(v - 1, v, lengths);
            }
        }
        Check.form(x, "a");
        Check.form(x, "b");
        Check.form(x, "c");
        return x;
    }

    private static void next() {
        DialectAtlas x = line(10, 5, 9, 9, 7, 1);
        CHECK.due("26: none says anything: the most folk, the least", 1, x.next(0));
        x.answer(0, 0, 0);
        CHECK.due("26: the farthest", 4, x.next(0));
        x.answer(4, 0, 0);
        CHECK.due("26: the farthest from the nearest", 2, x.next(0));
        x.answer(2, 0, 0);
        CHECK.due("26: as far: the most folk", 1, x.next(0));
        CHECK.due("26: another thing", 1, x.next(1));
        x.answer(1, 0, 0);
        x.answer(3, 0, 0);
        CHECK.due("26: all say something", Check.NONE, x.next(0));
        x.take(1);
        CHECK.due("26: as known today", 4, x.next(0));
        CHECK.due("26: thing 6", Check.BEYOND, x.next(6));
        CHECK.due("26: thing -1", Check.BEYOND, x.next(-1));
        CHECK.due("26: no villages", Check.NONE, new DialectAtlas().next(0));
    }

    private static void nextTies() {
        DialectAtlas x = line(99, 1, 1, 1, 1, 1, 1);
        x.answer(0, 0, 0);
        x.road(3, 4, 0);
        CHECK.due("26: cut is farther than all", 4, x.next(0));
        x.answer(5, 0, 1);
        CHECK.due("26: no longer cut", 3, x.next(0));
        x.village(9, 2);
        x.village(9, 3);
        x.village(9, 3);
        CHECK.due("26: of those cut the most folk, the least", 7, x.next(0));
        DialectAtlas y = line(5, 2, 8, 3, 3);
        y.answer(1, 0, 0);
        y.road(0, 2, 4);
        y.road(1, 3, 5);
        CHECK.due("26: as far, the most folk, the least", 2, y.next(0));
        DialectAtlas z = line(5, 3, 3, 3);
        z.answer(2, 0, 0);
        CHECK.due("26: village 0 is the farthest", 0, z.next(0));
    }

    private static void foretold() {
        DialectAtlas x = line(9, 999, 100, 40, 300);
        CHECK.due("27: no form", Check.NONE, x.foretold(0, 0));
        x.answer(0, 0, 0);
        CHECK.due("27: itself is left out", Check.NONE, x.foretold(0, 0));
        CHECK.due("27: the only one", 0, x.foretold(3, 0));
        x.answer(1, 0, 2);
        x.answer(2, 0, 1);
        // From 3: 999 by 28 is 35, 100 by 19 is 5, 40 by 10 is 4.
        CHECK.due("27: the greatest", 0, x.foretold(3, 0));
        CHECK.due("27: of village 1: 99 for 0, 4 for 1", 0, x.foretold(1, 0));
        CHECK.due("27: of village 0: 10 for 2, 2 for 1", 2, x.foretold(0, 0));
        x.road(2, 3, 0);
        CHECK.due("27: cut", Check.NONE, x.foretold(3, 0));
        CHECK.due("27: another thing", Check.NONE, x.foretold(1, 1));
        DialectAtlas y = line(9, 1, 19, 11, 10, 1);
        y.road(0, 2, 9);
        y.road(0, 3, 9);
        y.road(0, 4, 9);
        y.answer(1, 0, 2);
        y.answer(2, 0, 1);
        CHECK.due("27: each is cut: 1 and 1, the least", 1, y.foretold(0, 0));
        y.answer(3, 0, 2);
        CHECK.due("27: the sum: 2 and 1", 2, y.foretold(0, 0));
        DialectAtlas z = line(99, 50, 50, 50);
        z.answer(2, 0, 2);
        CHECK.due("27: a sum of 0", 2, z.foretold(0, 0));
        z.answer(1, 0, 1);
        CHECK.due("27: sums of 0, the least", 1, z.foretold(0, 0));
        z.take(1);
        CHECK.due("27: as known today", 2, z.foretold(0, 0));
        CHECK.due("27: village 3", Check.BEYOND, z.foretold(3, 0));
        CHECK.due("27: village -1", Check.BEYOND, z.foretold(-1, 0));
        CHECK.due("27: thing 6", Check.BEYOND, z.foretold(0, 6));
    }

    private static void rounds() {
        DialectAtlas x = line(3, 1, 1, 1, 1, 1, 1, 1, 1);
        order(x, 0, 0b11111110, 42, 1, 2, 3, 4, 5, 6, 7);
        order(x, 7, 0b1111111, 42, 0, 1, 2, 3, 4, 5, 6);
        order(x, 3, 0b10001001 & ~8, 42, 0, 7);
        order(x, 3, 0, 0);
        order(x, 5, 0b10000, 6, 4);
        DialectAtlas star = new DialectAtlas();
        for (int v = 0; v < 8; v++) {
            star.village(v, 1);
            if (v > 0) {
                star.road(0, v, v);
            }
        }
        order(star, 0, 0b11111110, 56, 1, 2, 3, 4, 5, 6, 7);
        order(star, 4, 0b11101110, 56, 1, 2, 3, 5, 6, 7);
        DialectAtlas ring = new DialectAtlas();
        for (int v = 0; v < 6; v++) {
            ring.village(v, 1);
        }
        int[] around = {0, 4, 1, 5, 2, 3};
        for (int i = 0; i < 6; i++) {
            ring.road(around[i], around[(i + 1) % 6], 10);
        }
        order(ring, 0, 0b111110, 60, 3, 2, 5, 1, 4);
        order(ring, 1, 0b111101, 60, 4, 0, 3, 2, 5);
    }

    private static void order(DialectAtlas x, int home, int set, int sum, int... stops) {
        CHECK.due("28: the sum from " + home, sum, x.round(home, set, -1));
        for (int i = 0; i < stops.length; i++) {
            CHECK.due("28: stop " + i + " from " + home, stops[i], x.round(home, set, i));
        }
        CHECK.due("28: not so many", Check.NONE, x.round(home, set, stops.length));
    }

    private static void roundFindings() {
        DialectAtlas x = new DialectAtlas();
        CHECK.due("28: no village", Check.BEYOND, x.round(0, 0, -1));
        for (int v = 0; v < 9; v++) {
            x.village(v, 1);
        }
        CHECK.due("28: village 9", Check.BEYOND, x.round(9, 0, -1));
        CHECK.due("28: village -1", Check.BEYOND, x.round(-1, 0, -1));
        CHECK.due("28: a bit of another one", Check.BEYOND, x.round(0, 512, -1));
        CHECK.due("28: below 0", Check.BEYOND, x.round(0, -2, -1));
        CHECK.due("28: home itself", Check.BEYOND, x.round(0, 3, -1));
        CHECK.due("28: what -2", Check.BEYOND, x.round(0, 2, -2));
        CHECK.due("28: eight", Check.SIZE, x.round(0, 510, 0));
        CHECK.due("28: BEYOND ahead of SIZE", Check.BEYOND, x.round(0, 511, 0));
        CHECK.due("28: cut", Check.CUT, x.round(0, 2, 0));
        CHECK.due("28: CUT ahead of NONE", Check.CUT, x.round(0, 2, 5));
        x.road(0, 1, 4);
        CHECK.due("28: there and back", 8, x.round(0, 2, -1));
        CHECK.due("28: one of them is cut", Check.CUT, x.round(0, 6, -1));
        CHECK.due("28: village 0 is cut", Check.CUT, x.round(5, 1, -1));
        CHECK.due("28: no such stop", Check.NONE, x.round(0, 2, 1));
        CHECK.due("28: far behind the last", Check.NONE, x.round(0, 2, Integer.MAX_VALUE));
    }

    private static void spread() {
        DialectAtlas x = line(1, 1, 1, 1, 1);
        CHECK.due("29: no years", 1, x.spread(1, 0));
        CHECK.due("29: as many are enough; all at once in a year", 3, x.spread(1, 1));
        CHECK.due("29: two years", 7, x.spread(1, 2));
        CHECK.due("29: three years", 15, x.spread(1, 3));
        CHECK.due("29: all keep it", 15, x.spread(1, 30));
        CHECK.due("29: nobody has it", 0, x.spread(0, 30));
        DialectAtlas y = line(1, 4, 9, 5, 9);
        CHECK.due("29: 4 against 5", 1, y.spread(1, 30));
        CHECK.due("29: 5 against 4", 15, y.spread(4, 30));
        CHECK.due("29: in the first year", 14, y.spread(4, 1));
        y.village(50, 1);
        CHECK.due("29: one without a road never takes it", 15, y.spread(4, 30));
        CHECK.due("29: and keeps it", 16, y.spread(16, 30));
        DialectAtlas star = new DialectAtlas();
        int[] folk = {1, 10, 20, 31};
        for (int v = 0; v < 4; v++) {
            star.village(v, folk[v]);
            if (v > 0) {
                star.road(0, v, 9);
            }
        }
        CHECK.due("29: 30 against 31", 6, star.spread(6, 5));
        CHECK.due("29: 31 against 30", 15, star.spread(8, 2));
        CHECK.due("29: bits of others", Check.BEYOND, star.spread(16, 1));
        CHECK.due("29: below 0", Check.BEYOND, star.spread(-1, 1));
        CHECK.due("29: n 31", Check.BEYOND, star.spread(1, 31));
        CHECK.due("29: n -1", Check.BEYOND, star.spread(1, -1));
    }

    private static void seeds() {
        DialectAtlas x = line(1, 1, 1, 1, 1, 1, 1, 1);
        CHECK.due("30: in 30 years any", 1, x.seeds(30));
        CHECK.due("30: in 6 years", 1, x.seeds(6));
        CHECK.due("30: in 5 years", 2, x.seeds(5));
        CHECK.due("30: in 3 years the middle one", 8, x.seeds(3));
        CHECK.due("30: in 2 years", 0b10001, x.seeds(2));
        CHECK.due("30: in 1 year", 0b100101, x.seeds(1));
        CHECK.due("30: at once", Check.NONE, x.seeds(0));
    }

    private static void seedFindings() {
        DialectAtlas x = new DialectAtlas();
        CHECK.due("30: no villages, no seeds", 0, x.seeds(0));
        CHECK.due("30: n 31", Check.BEYOND, x.seeds(31));
        CHECK.due("30: n -1", Check.BEYOND, x.seeds(-1));
        int[] due = {1, 3, 7, Check.NONE};
        for (int v = 0; v < 4; v++) {
            x.village(v, 1);
            CHECK.due("30: each for itself", due[v], x.seeds(30));
            CHECK.due("30: at once", due[v], x.seeds(0));
        }
        x.road(2, 3, 1);
        CHECK.due("30: two of them joined", 7, x.seeds(1));
        CHECK.due("30: not at once", Check.NONE, x.seeds(0));
    }
}
