import java.util.Random;

/** Promises 22 and 24 on drawn atlases where every village says something, held against PlainAtlas. */
public final class DenseRunsTest {
    private static final Check CHECK = new Check();

    public static void main(String[] args) {
        drawnRuns();
        CHECK.end();
    }

    /** Every village says something, so that borders and dialects are hard to find; held against PlainAtlas. */
    private static void drawnRuns() {
        Random random = new Random(22);
        for (int run = 0; run < 60; run++) {
            DialectAtlas x = new DialectAtlas();
            PlainAtlas plain = new PlainAtlas();
            int villages = 2 + random.nextInt(run % 2 == 0 ? 11 : 9);
            int side = run % 3 == 0 ? 4 : 100;
            int forms = 2 + random.nextInt(4);
            for (int f = 0; f < forms; f++) {
                int size = 1 + random.nextInt(3);
                long sounds = random.nextInt(26) | random.nextInt(26) << 8 | random.nextInt(26) << 16;
                x.form(size, sounds);
                plain.form(size, sounds);
            }
            for (int v = 0; v < villages; v++) {
                int place = 100 * random.nextInt(side) + random.nextInt(side);
                int folk = 1 + random.nextInt(run % 5 == 0 ? 2 : 999);
                x.village(place, folk);
                plain.village(place, folk);
                x.asked(v, 0, 1);
                plain.asked(v, 0, 1);
                for (int thing = 0; thing < 2; thing++) {
                    int form = random.nextInt(x.count(3));
                    x.answer(v, thing, form);
                    plain.answer(v, thing, form);
                }
            }
            compare(run, x, plain);
        }
    }

    private static void compare(int run, DialectAtlas x, PlainAtlas plain) {
        for (int thing = 0; thing < 2; thing++) {
            for (int what = 0; what < 4; what++) {
                CHECK.due("22: drawn run " + run, plain.border(thing, 0, 1, what), x.border(thing, 0, 1, what));
                CHECK.due("22: drawn run " + run, plain.border(thing, 1, 0, what), x.border(thing, 1, 0, what));
            }
        }
        // The plain search is dear for the most villages that can be parted: there two answers for each k are enough.
        int step = x.count(0) < 9 ? 1 : x.count(0);
        for (int k = 1; k <= 4 && x.count(0) <= 10; k++) {
            for (int what = -1; what < x.count(0); what += step) {
                CHECK.due("24: drawn run " + run, plain.dialects(k, what), x.dialects(k, what));
            }
        }
    }
}
