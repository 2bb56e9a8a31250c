/** Promises 1 to 5: a new object, villages, roads, walks, days. */
public final class VillagesTest {
    private static final Check CHECK = new Check();

    public static void main(String[] args) {
        newObject();
        villages();
        roads();
        walks();
        days();
        CHECK.end();
    }

    private static void newObject() {
        DialectAtlas x = new DialectAtlas();
        for (int what = 0; what <= 8; what++) {
            CHECK.due("1: count(" + what + ") of a new object", 0, x.count(what));
        }
        for (int t = 0; t < 4; t++) {
            CHECK.due("1: changes of a new object", 0, x.changes(t));
            CHECK.due("1: a sheet of a new object", Check.MISSING, x.put(t, 0, 0));
        }
        CHECK.due("1: the tape is empty", 1, x.feed(1, 'a'));
        CHECK.due("1: nothing to undo", Check.NONE, x.undo());
        CHECK.due("1: day 0 may stay", 0, x.day(0));
        DialectAtlas other = new DialectAtlas();
        x.village(0, 1);
        CHECK.due("1: objects share nothing", 0, other.count(0));
    }

    private static void villages() {
        DialectAtlas x = new DialectAtlas();
        CHECK.due("2: place -1", Check.BEYOND, x.village(-1, 1));
        CHECK.due("2: place 10000", Check.BEYOND, x.village(10000, 1));
        CHECK.due("2: folk 0", Check.BEYOND, x.village(0, 0));
        CHECK.due("2: folk 1000", Check.BEYOND, x.village(0, 1000));
        CHECK.due("2: folk -5", Check.BEYOND, x.village(0, -5));
        CHECK.due("2: greatest numbers", Check.BEYOND, x.village(Integer.MAX_VALUE, Integer.MIN_VALUE));
        CHECK.due("2: none was made", 0, x.count(0));
        for (int v = 0; v < 12; v++) {
            CHECK.due("2: village " + v, v, x.village(v % 2 == 0 ? 9999 : 0, v % 2 == 0 ? 999 : 1));
        }
        CHECK.due("2: a thirteenth", Check.FULL, x.village(5, 5));
        CHECK.due("2: BEYOND is asked ahead of FULL", Check.BEYOND, x.village(10000, 5));
        CHECK.due("2: all folk", 6 * 999 + 6, x.count(7));
        CHECK.due("2: there are 12", 12, x.count(0));
    }

    private static void roads() {
        DialectAtlas x = new DialectAtlas();
        CHECK.due("3: no village at all", Check.BEYOND, x.road(0, 0, 1));
        x.village(0, 1);
        x.village(1, 1);
        x.village(2, 1);
        CHECK.due("3: a new road", 0, x.road(0, 1, 99));
        CHECK.due("3: it goes both ways", 99, x.road(1, 0, 1));
        CHECK.due("3: one at most", 1, x.count(1));
        CHECK.due("3: no second village", Check.BEYOND, x.road(0, 3, 1));
        CHECK.due("3: no first village", Check.BEYOND, x.road(-1, 0, 1));
        CHECK.due("3: length 100", Check.BEYOND, x.road(0, 1, 100));
        CHECK.due("3: length -1", Check.BEYOND, x.road(0, 1, -1));
        CHECK.due("3: to itself", Check.SIZE, x.road(2, 2, 1));
        CHECK.due("3: BEYOND ahead of SIZE", Check.BEYOND, x.road(2, 2, 100));
        CHECK.due("3: to itself, none", Check.SIZE, x.road(2, 2, 0));
        CHECK.due("3: a second road", 0, x.road(2, 1, 7));
        CHECK.due("3: two roads", 2, x.count(1));
        CHECK.due("3: taken away", 1, x.road(0, 1, 0));
        CHECK.due("3: it is away", 0, x.road(0, 1, 0));
        CHECK.due("3: one road", 1, x.count(1));
    }

    private static void walks() {
        DialectAtlas x = new DialectAtlas();
        CHECK.due("4: no village", Check.BEYOND, x.walk(0, 0));
        for (int v = 0; v < 12; v++) {
            x.village(v, 1);
        }
        CHECK.due("4: cut", Check.CUT, x.walk(0, 1));
        CHECK.due("4: to itself", 0, x.walk(11, 11));
        for (int v = 0; v < 11; v++) {
            x.road(v, v + 1, 99);
        }
        CHECK.due("4: the longest walk", 11 * 99, x.walk(11, 0));
        x.road(0, 5, 98);
        CHECK.due("4: a shorter one", 98 + 6 * 99, x.walk(0, 11));
        CHECK.due("4: backward along a road", 98 + 99, x.walk(0, 4));
        x.road(3, 4, 0);
        CHECK.due("4: the other way about", 98 + 99, x.walk(4, 0));
        x.road(0, 5, 0);
        CHECK.due("4: cut in two", Check.CUT, x.walk(0, 4));
        CHECK.due("4: joined on one side", 3 * 99, x.walk(3, 0));
        CHECK.due("4: village 12", Check.BEYOND, x.walk(0, 12));
        CHECK.due("4: village -1", Check.BEYOND, x.walk(-1, 0));
        CHECK.due("4: a direct road is not always the shortest", 0, x.road(0, 2, 99));
        x.road(0, 1, 1);
        x.road(1, 2, 1);
        CHECK.due("4: by 1", 2, x.walk(0, 2));
    }

    private static void days() {
        DialectAtlas x = new DialectAtlas();
        CHECK.due("5: the first", 0, x.day(5));
        CHECK.due("5: the same", 5, x.day(5));
        CHECK.due("5: ahead of it", Check.BEYOND, x.day(4));
        CHECK.due("5: below 0", Check.BEYOND, x.day(-1));
        CHECK.due("5: day 1000", Check.BEYOND, x.day(1000));
        CHECK.due("5: day 999", 5, x.day(999));
        CHECK.due("5: the last stays", 999, x.day(999));
        CHECK.due("5: today", 999, x.count(6));
    }
}
