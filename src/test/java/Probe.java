import java.util.ArrayList;
import java.util.List;

/** An atlas with as much as there can be, and a row of calls that tells all of it; both in fewer than 512 calls. */
final class Probe {
    private Probe() {
    }

    /** Full of villages, the asked, forms, answers and tape; its latest acts are of six kinds. */
    static DialectAtlas full() {
        DialectAtlas x = Given.line(7, 1, 2, 3, 4, 5, 6, 7, 8, 9, 10);
        for (int i = 0; i < 20; i++) {
            x.asked(i % 10, i % 4, 1 + i % 9);
        }
        Given.forms(x, 29);
        for (int i = 0; i < 59; i++) {
            x.answer(i % 20, i % 6, i % 29);
        }
        x.take(3);
        Given.text(x, 0, "a>b;");
        Given.text(x, 2, "c>0/#_*;a>e;");
        Given.sheet(x, 0, 0, 1, 0, 1, 2, 3, 0, 0, 0, 0);
        x.sheet(1, 16, 10);
        for (int i = 0; i < 10; i++) {
            x.feed(8, Given.bytes("a>b/c_d;"));
        }
        x.day(500);
        x.take(5);
        x.form(3, 0);
        x.answer(19, 5, 29);
        x.village(9999, 999);
        x.village(101, 11);
        return x;
    }

    /** What the atlas tells; it is used up by that, for only acts tell of the tape and of what can be undone. */
    static List<Integer> all(DialectAtlas x) {
        List<Integer> told = new ArrayList<>();
        counts(x, told);
        villages(x, x.count(0), x.count(6), told);
        people(x, x.count(2), told);
        forms(x, x.count(3), told);
        answers(x, x.count(4), told);
        undo(x, told);
        tapeAndTexts(x, told);
        sheets(x, told);
        return told;
    }

    private static void villages(DialectAtlas x, int villages, int today, List<Integer> told) {
        for (int v = 0; v < villages; v++) {
            told.add(x.walk(0, v));
            told.add(x.says(v, 0, today));
            told.add(x.says(v, 5, 0));
        }
    }

    private static void people(DialectAtlas x, int people, List<Integer> told) {
        for (int who = 0; who < people; who++) {
            told.add(x.as(who, 0));
        }
    }

    private static void forms(DialectAtlas x, int forms, List<Integer> told) {
        for (int f = 0; f < forms; f++) {
            told.add(x.sound(f, 0));
        }
    }

    private static void answers(DialectAtlas x, int answers, List<Integer> told) {
        for (int a = 0; a < answers; a++) {
            told.add(x.answerIs(a, 2));
            told.add(x.answerIs(a, 4));
        }
    }

    private static void counts(DialectAtlas x, List<Integer> told) {
        for (int what = 0; what < 8; what++) {
            told.add(x.count(what));
        }
    }

    private static void undo(DialectAtlas x, List<Integer> told) {
        for (int i = 0; i < 7; i++) {
            told.add(x.undo());
            told.add(x.count(i));
        }
        counts(x, told);
    }

    private static void tapeAndTexts(DialectAtlas x, List<Integer> told) {
        told.add(x.feed(1, '?'));
        told.add(x.text(3));
        for (int t = 0; t < 4; t++) {
            told.add(x.changes(t));
            told.add(x.becomes(0, t, -1));
            told.add(x.becomes(2, t, 0));
        }
    }

    private static void sheets(DialectAtlas x, List<Integer> told) {
        for (int s = 0; s < 4; s++) {
            told.add(x.proves(s, 300));
            told.add(x.copy(s, 0, 0, 0, 10));
            told.add(x.proves(0, 300));
            told.add(x.put(s, 10, 0));
        }
    }
}
