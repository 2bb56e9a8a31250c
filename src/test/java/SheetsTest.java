/** Promises 31 to 35: sheets, undo, count. */
public final class SheetsTest {
    private static final Check CHECK = new Check();

    public static void main(String[] args) {
        sheets();
        puts();
        copies();
        undoEach();
        undoSix();
        undoBehindMany();
        undoLeaves();
        counts();
        CHECK.end();
    }

    private static void sheets() {
        DialectAtlas x = new DialectAtlas();
        CHECK.due("31: sheet 4", Check.BEYOND, x.sheet(4, 8, 1));
        CHECK.due("31: sheet -1", Check.BEYOND, x.sheet(-1, 8, 1));
        CHECK.due("31: 24 bits", Check.BEYOND, x.sheet(0, 24, 1));
        CHECK.due("31: 64 bits", Check.BEYOND, x.sheet(0, 64, 1));
        CHECK.due("31: -8 bits", Check.BEYOND, x.sheet(0, -8, 1));
        CHECK.due("31: bits are asked ahead of n", Check.BEYOND, x.sheet(0, 9, -1));
        CHECK.due("31: n -1", Check.SIZE, x.sheet(0, 8, -1));
        CHECK.due("31: n 21", Check.BEYOND, x.sheet(0, 8, 21));
        CHECK.due("31: it is missing still", Check.MISSING, x.put(0, 0, 0));
        CHECK.due("31: 20 of 8", 20, x.sheet(0, 8, 20));
        CHECK.due("31: none of 32", 0, x.sheet(3, 32, 0));
        CHECK.due("31: an empty one is not missing", Check.BEYOND, x.put(3, 0, 0));
        CHECK.due("31: a finding changes nothing", Check.SIZE, x.sheet(0, 16, -1));
        CHECK.due("31: it has 20 still", 0, x.put(0, 19, 0));
        CHECK.due("31: missing again", 0, x.sheet(0, 0, 7));
        CHECK.due("31: it is", Check.MISSING, x.put(0, 0, 0));
        x.village(0, 1);
        x.sheet(1, 16, 1);
        x.put(1, 0, 5);
        CHECK.due("31: not 0", 0, x.proves(1, 99));
        x.sheet(1, 16, 1);
        CHECK.due("31: all 0 anew", -1, x.proves(1, 99));
    }

    private static void puts() {
        DialectAtlas x = new DialectAtlas();
        x.village(0, 1);
        CHECK.due("32: sheet 4", Check.BEYOND, x.put(4, 0, 0));
        CHECK.due("32: sheet -1", Check.BEYOND, x.put(-1, 0, 0));
        CHECK.due("32: missing ahead of no such number", Check.MISSING, x.put(0, -1, 0));
        int[] widths = {8, 16, 32};
        int[][] zeros = {{256, -256, 0x12345600}, {65536, -65536, 0x12340000}, {0, 0, 0}};
        int[][] others = {{255, -1, 128}, {256, -1, 32768}, {65536, -1, Integer.MIN_VALUE}};
        for (int w = 0; w < 3; w++) {
            x.sheet(w, widths[w], 1);
            for (int i = 0; i < 3; i++) {
                CHECK.due("32: put", 0, x.put(w, 0, others[w][i]));
                CHECK.due("32: not 0 in " + widths[w] + " bits", 0, x.proves(w, 9));
                x.put(w, 0, zeros[w][i]);
                CHECK.due("32: 0 in " + widths[w] + " bits", -1, x.proves(w, 9));
            }
            CHECK.due("32: number 1", Check.BEYOND, x.put(w, 1, 0));
            CHECK.due("32: number -1", Check.BEYOND, x.put(w, -1, 0));
        }
    }

    private static void copies() {
        DialectAtlas x = new DialectAtlas();
        for (int v = 0; v < 4; v++) {
            x.village(v, 1);
        }
        CHECK.due("33: sheet 4", Check.BEYOND, x.copy(4, 0, 0, 0, 0));
        CHECK.due("33: to sheet 4", Check.BEYOND, x.copy(0, 0, 4, 0, 0));
        CHECK.due("33: both missing", Check.MISSING, x.copy(0, 0, 1, 0, 0));
        x.sheet(0, 8, 4);
        CHECK.due("33: one missing", Check.MISSING, x.copy(0, 0, 1, 0, 0));
        CHECK.due("33: the other one missing", Check.MISSING, x.copy(1, 0, 0, 0, 0));
        x.sheet(1, 16, 4);
        CHECK.due("33: not of as many bits", Check.KIND, x.copy(0, 0, 1, 0, 4));
        CHECK.due("33: KIND ahead of BEYOND", Check.KIND, x.copy(0, -1, 1, 0, 4));
        x.sheet(2, 8, 6);
        for (int i = 0; i < 4; i++) {
            x.put(0, i, i);
        }
        CHECK.due("33: one has not so many", Check.BEYOND, x.copy(0, 1, 2, 0, 4));
        CHECK.due("33: the other one has not so many", Check.BEYOND, x.copy(0, 0, 2, 3, 4));
        CHECK.due("33: from -1", Check.BEYOND, x.copy(0, -1, 2, 0, 1));
        CHECK.due("33: to -1", Check.BEYOND, x.copy(0, 0, 2, -1, 1));
        CHECK.due("33: n -1", Check.BEYOND, x.copy(0, 1, 2, 1, -1));
        CHECK.due("33: great numbers", Check.BEYOND, x.copy(0, Integer.MAX_VALUE, 2, 1, Integer.MAX_VALUE));
        CHECK.due("33: a great from", Check.BEYOND, x.copy(0, Integer.MAX_VALUE, 2, 1, 1));
        CHECK.due("33: none, at the end", 0, x.copy(0, 4, 2, 6, 0));
        CHECK.due("33: none, behind the end", Check.BEYOND, x.copy(0, 5, 2, 6, 0));
        CHECK.due("33: four", 4, x.copy(0, 0, 2, 2, 4));
        CHECK.due("33: back again", 4, x.copy(2, 2, 0, 0, 4));
        CHECK.due("33: 0 1 2 3", -1, x.proves(0, 20));
        // In one sheet the numbers are those of ahead of the call: 0 1 2 3 becomes 0 0 1 2, then 0 1 2 2.
        CHECK.due("33: in one sheet, forward", 3, x.copy(0, 0, 0, 1, 3));
        CHECK.due("33: 0 0 1 2", -1, x.proves(0, 15));
        CHECK.due("33: in one sheet, backward", 3, x.copy(0, 1, 0, 0, 3));
        CHECK.due("33: 0 1 2 2", -1, x.proves(0, 15));
        x.put(0, 3, 3);
        CHECK.due("33: a copy stands for itself", 4, x.copy(0, 0, 0, 0, 4));
        CHECK.due("33: 0 1 2 3 again", 100, x.proves(0, 19));
    }

    private static void undoEach() {
        DialectAtlas x = new DialectAtlas();
        CHECK.due("34: nothing yet", Check.NONE, x.undo());
        x.village(707, 5);
        CHECK.due("34: village", 0, x.undo());
        CHECK.due("34: it is gone", 0, x.count(0));
        CHECK.due("34: its folk too", 0, x.count(7));
        x.village(0, 1);
        x.village(1, 1);
        x.road(0, 1, 5);
        x.road(1, 0, 9);
        x.undo();
        CHECK.due("34: the road as it was", 5, x.walk(0, 1));
        x.undo();
        CHECK.due("34: no road", Check.CUT, x.walk(0, 1));
        x.asked(0, 1, 2);
        x.undo();
        CHECK.due("34: nobody asked", Check.BEYOND, x.as(0, 1));
        x.asked(0, 0, 2);
        Check.form(x, "a");
        Check.form(x, "b");
        x.undo();
        CHECK.due("34: form b is gone", 1, Check.form(x, "c"));
        CHECK.due("34: a and c", 1, x.far(0, 1));
        Check.form(x, "a");
        CHECK.due("34: a form that was there is an act, too", 5, x.undo());
        CHECK.due("34: and stays", 2, x.count(3));
        x.day(4);
        x.answer(0, 0, 0);
        x.day(8);
        x.take(0);
        x.undo();
        CHECK.due("34: not taken back", -1, x.answerIs(0, 4));
        x.undo();
        CHECK.due("34: day 4 again", 4, x.count(6));
        x.undo();
        CHECK.due("34: no answer", 0, x.count(4));
        x.undo();
        CHECK.due("34: day 0 again", 0, x.count(6));
        CHECK.due("34: an earlier day may be set again", 0, x.day(1));
    }

    private static void undoSix() {
        DialectAtlas x = new DialectAtlas();
        for (int v = 0; v < 9; v++) {
            x.village(v, v + 1);
        }
        for (int left = 5; left >= 3; left--) {
            CHECK.due("34: six at most", left, x.undo());
        }
        CHECK.due("34: the latest go first", 1 + 2 + 3 + 4 + 5 + 6, x.count(7));
        x.village(50, 100);
        x.village(0, 0);
        CHECK.due("34: findings are no acts", 3, x.undo());
        x.walk(0, 0);
        x.seeds(1);
        x.count(0);
        CHECK.due("34: nor are questions", 2, x.undo());
        CHECK.due("34: 1 more", 1, x.undo());
        CHECK.due("34: the last", 0, x.undo());
        CHECK.due("34: none is left", Check.NONE, x.undo());
        CHECK.due("34: three stay", 3, x.count(0));
        x.day(0);
        CHECK.due("34: a day that stays is an act", 0, x.undo());
        x.road(0, 1, 0);
        CHECK.due("34: a road that stays none is an act", 0, x.undo());
    }

    /** More than six acts, each about something else, so that each must be kept with its own. */
    private static void undoBehindMany() {
        DialectAtlas x = new DialectAtlas();
        for (int v = 0; v < 6; v++) {
            x.village(v, 1);
        }
        x.asked(0, 0, 1);
        Check.form(x, "a");
        for (int i = 0; i < 4; i++) {
            x.answer(0, i, 0);
        }
        for (int v = 1; v < 6; v++) {
            x.road(v - 1, v, v);
        }
        x.take(2);
        x.take(0);
        x.road(3, 2, 50);
        x.day(9);
        x.road(4, 5, 0);
        x.undo();
        CHECK.due("34: the latest road", 5, x.walk(4, 5));
        x.undo();
        CHECK.due("34: the day", 0, x.count(6));
        x.undo();
        CHECK.due("34: the road that was longer", 3, x.walk(2, 3));
        x.undo();
        CHECK.due("34: answer 0 is not taken back", -1, x.answerIs(0, 4));
        CHECK.due("34: answer 2 is", 0, x.answerIs(2, 4));
        x.undo();
        CHECK.due("34: nor is answer 2", -1, x.answerIs(2, 4));
        CHECK.due("34: the sixth is a road", 0, x.undo());
        CHECK.due("34: it is gone", Check.CUT, x.walk(4, 5));
        CHECK.due("34: the one ahead of it is not", 4, x.walk(3, 4));
    }

    private static void undoLeaves() {
        DialectAtlas x = new DialectAtlas();
        x.village(0, 1);
        x.sheet(0, 8, 1);
        x.put(0, 0, 3);
        Check.text(x, 0, "a>b;");
        x.feed(2, 0);
        CHECK.due("34: sheets and texts are no acts", 0, x.undo());
        CHECK.due("34: the text stays", 1, x.changes(0));
        CHECK.due("34: the tape stays", 3, x.feed(1, 0));
        CHECK.due("34: the sheet stays", 1, x.proves(0, 5));
        x.undo();
        CHECK.due("34: findings stay counted", 1, x.count(8));
    }

    private static void counts() {
        DialectAtlas x = new DialectAtlas();
        x.village(0, 999);
        x.village(1, 2);
        x.road(0, 1, 3);
        x.asked(0, 0, 1);
        x.asked(0, 0, 1);
        x.asked(0, 0, 1);
        for (String form : new String[] {"a", "b", "c", "d"}) {
            Check.form(x, form);
        }
        for (int i = 0; i < 5; i++) {
            x.answer(0, 0, 0);
        }
        x.take(1);
        x.take(3);
        x.day(77);
        int[] due = {2, 1, 3, 4, 5, 3, 77, 1001, 0};
        for (int what = 0; what < due.length; what++) {
            CHECK.due("35: count(" + what + ")", due[what], x.count(what));
        }
        CHECK.due("35: what 9", Check.BEYOND, x.count(9));
        CHECK.due("35: it counts itself", 1, x.count(8));
        CHECK.due("35: what -1", Check.BEYOND, x.count(-1));
        x.walk(0, 5);
        x.says(0, 1, 0);
        x.text(9);
        CHECK.due("35: every call that answers a finding", 5, x.count(8));
    }
}
