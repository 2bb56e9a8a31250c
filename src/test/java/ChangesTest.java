/** Promises 16 to 21: the tape, texts of changes, what forms become by them. */
public final class ChangesTest {
    private static final Check CHECK = new Check();

    public static void main(String[] args) {
        feeding();
        faults();
        faultKeepsText();
        becoming();
        contexts();
        becomesFindings();
        explaining();
        CHECK.end();
    }

    private static void feeding() {
        DialectAtlas x = new DialectAtlas();
        CHECK.due("16: n 0", Check.BEYOND, x.feed(0, 0));
        CHECK.due("16: n 9", Check.BEYOND, x.feed(9, 0));
        CHECK.due("16: n -1", Check.BEYOND, x.feed(-1, 0));
        for (int i = 1; i <= 9; i++) {
            CHECK.due("16: eight more", 8 * i, x.feed(8, Check.bytes("a>b;a>b;")));
        }
        CHECK.due("16: 79", 79, x.feed(7, Check.bytes("a>b;a>b")));
        CHECK.due("16: two more are too many", Check.FULL, x.feed(2, 0));
        CHECK.due("16: BEYOND ahead of FULL", Check.BEYOND, x.feed(9, 0));
        CHECK.due("16: one is not", 80, x.feed(1, ';'));
        CHECK.due("16: full", Check.FULL, x.feed(1, ';'));
        CHECK.due("17: no such text, the tape stays", Check.BEYOND, x.text(4));
        CHECK.due("17: text -1", Check.BEYOND, x.text(-1));
        CHECK.due("16: still full", Check.FULL, x.feed(1, ';'));
        CHECK.due("17: the thirteenth change", 48, x.text(3));
        CHECK.due("16: the tape is empty then", 1, x.feed(1, 0xff00 | 'a'));
        CHECK.due("16: the lowest first", 4, x.feed(3, Check.bytes(">b;xyz")));
        CHECK.due("17: read", -1, x.text(3));
        CHECK.due("18: one change", 1, x.changes(3));
        CHECK.due("18: text 4", Check.BEYOND, x.changes(4));
        CHECK.due("18: text -1", Check.BEYOND, x.changes(-1));
    }

    private static void faults() {
        fault("", -1);
        fault("a>b;", -1);
        fault("a>0;", -1);
        fault("z>z/#_#;", -1);
        fault("a>b/*_*;c>d;e>f/g_h;", -1);
        fault("a", 1);
        fault("a>", 2);
        fault("a>b", 3);
        fault("a>b/", 4);
        fault("a>b/c", 5);
        fault("a>b/c_", 6);
        fault("a>b/c_d", 7);
        fault("a>b;c", 5);
        fault("0>b;", 0);
        fault("#>b;", 0);
        fault("*>b;", 0);
        fault(";", 0);
        fault("`>b;", 0);
        fault("{>b;", 0);
        fault("A>b;", 0);
        fault("a;b;", 1);
        fault("a=b;", 1);
        fault("a>1;", 2);
        fault("a>#;", 2);
        fault("a>*;", 2);
        fault("a>;", 2);
        fault("a>bb", 3);
        fault("a>b_", 3);
        fault("a>b/0_c;", 4);
        fault("a>b/_c;", 4);
        fault("a>b/cc;", 5);
        fault("a>b/c_0;", 6);
        fault("a>b/c_;", 6);
        fault("a>b/c_d/", 7);
        fault("a>b;;", 4);
        fault("a>b; c>d;", 4);
        fault("a>b;a>b;a>b;a>b;a>b;a>b;a>b;a>b;a>b;a>b;a>b;a>b;", -1);
        fault("a>b;a>b;a>b;a>b;a>b;a>b;a>b;a>b;a>b;a>b;a>b;a>b;c", 48);
        fault("a>b;a>b;a>b;a>b;a>b;a>b;a>b;a>b;a>b;a>b;a>b;a>b;?", 48);
        fault("a>b/#_#;a>b/#_#;a>b/#_#;a>b/#_#;a>b/#_#;a>b/#_#;a>b/#_#;a>b/#_#;a>b/#_#;a>b/#_#;", -1);
        fault("" + (char) 225 + ">b;", 0);
        fault("a>b" + (char) 0, 3);
    }

    private static void fault(String text, int due) {
        DialectAtlas x = new DialectAtlas();
        CHECK.due("17: " + text, due, Check.text(x, 0, text));
        CHECK.due("17: the tape is empty behind " + text, 1, x.feed(1, 'a'));
        CHECK.due("17: no finding", 0, x.count(8));
    }

    private static void faultKeepsText() {
        DialectAtlas x = new DialectAtlas();
        Check.form(x, "a");
        Check.text(x, 1, "a>c;b>d;");
        CHECK.due("17: with a fault", 5, Check.text(x, 1, "a>e;b;"));
        CHECK.due("18: the text stays", 2, x.changes(1));
        CHECK.due("19: with its changes", 2, x.becomes(0, 1, 0));
        CHECK.due("18: and others", 0, x.changes(0));
        CHECK.due("17: an empty tape", -1, x.text(1));
        CHECK.due("18: has no changes", 0, x.changes(1));
        CHECK.due("19: as it was", 0, x.becomes(0, 1, 0));
        Check.text(x, 3, "a>b;b>c;c>d;d>e;e>f;f>g;g>h;h>i;i>j;j>k;k>l;l>m;");
        CHECK.due("18: twelve", 12, x.changes(3));
        CHECK.due("19: twelve done in order", 12, x.becomes(0, 3, 0));
    }

    private static void becoming() {
        become("kita", "k>c;", "cita");
        become("aaa", "a>b;", "bbb");
        become("aba", "a>b;b>c;", "ccc");
        become("aba", "b>c;a>b;", "bcb");
        become("aba", "a>0;", "b");
        become("aaa", "a>0;", "");
        become("aaa", "a>0;b>c;", "");
        become("ab", "a>a;", "ab");
        become("abcdefgh", "", "abcdefgh");
        become("zzzzzzzz", "z>a/z_z;", "zaaaaaaz");
        become("azb", "z>0;a>c/#_b;", "cb");
    }

    private static void contexts() {
        become("aaa", "a>b/#_*;", "baa");
        become("aaa", "a>b/*_#;", "aab");
        become("aaa", "a>b/#_#;", "aaa");
        become("a", "a>b/#_#;", "b");
        become("aaa", "a>b/*_*;", "bbb");
        // The context is that of the row ahead of the change, not of what is made of it.
        become("aaa", "a>b/a_*;", "abb");
        become("aaa", "a>b/*_a;", "bba");
        become("aaaa", "a>0/a_*;", "a");
        become("aaaa", "a>0/*_a;", "a");
        become("abab", "b>c/a_a;", "acab");
        become("abab", "a>c/b_*;", "abcb");
        become("abab", "b>0/a_#;", "aba");
        become("xay", "a>0/x_y;x>z/#_y;", "zy");
    }

    private static void become(String old, String text, String due) {
        DialectAtlas x = new DialectAtlas();
        int form = Check.form(x, old);
        CHECK.due("17: " + text, -1, Check.text(x, 2, text));
        CHECK.due("19: how many " + old + " has by " + text, due.length(), x.becomes(form, 2, -1));
        for (int i = 0; i < due.length(); i++) {
            CHECK.due("19: " + old + " by " + text + " at " + i, due.charAt(i) - 'a', x.becomes(form, 2, i));
        }
        CHECK.due("19: behind the last", Check.BEYOND, x.becomes(form, 2, due.length()));
        CHECK.due("19: the form stays", old.length(), x.sound(form, -1));
        CHECK.due("19: no form is made", 1, x.count(3));
    }

    private static void becomesFindings() {
        DialectAtlas x = new DialectAtlas();
        CHECK.due("19: no form", Check.BEYOND, x.becomes(0, 0, -1));
        Check.form(x, "ab");
        CHECK.due("19: text 4", Check.BEYOND, x.becomes(0, 4, -1));
        CHECK.due("19: text -1", Check.BEYOND, x.becomes(0, -1, -1));
        CHECK.due("19: form 1", Check.BEYOND, x.becomes(1, 0, -1));
        CHECK.due("19: form -1", Check.BEYOND, x.becomes(-1, 0, -1));
        CHECK.due("19: i -2", Check.BEYOND, x.becomes(0, 0, -2));
        CHECK.due("19: a text of no changes", 1, x.becomes(0, 0, 1));
    }

    private static void explaining() {
        DialectAtlas x = new DialectAtlas();
        CHECK.due("20: no village", Check.BEYOND, x.explains(0, 0, 0));
        for (int v = 0; v < 4; v++) {
            x.village(v, 1);
            x.asked(v, 0, 1);
        }
        int ab = Check.form(x, "ab");
        int cb = Check.form(x, "cb");
        int b = Check.form(x, "b");
        CHECK.due("20: it says nothing", Check.MISSING, x.explains(0, 0, ab));
        x.answer(0, 0, ab);
        x.answer(1, 0, cb);
        x.answer(2, 0, cb);
        x.answer(3, 0, b);
        CHECK.due("20: by a text of no changes", 0, x.explains(0, 0, ab));
        CHECK.due("20: by none", Check.NONE, x.explains(1, 0, ab));
        Check.text(x, 0, "a>c;");
        Check.text(x, 1, "a>0;");
        Check.text(x, 3, "a>c;");
        CHECK.due("20: the least", 0, x.explains(1, 0, ab));
        CHECK.due("20: the text of no changes", 2, x.explains(0, 0, ab));
        CHECK.due("20: by falling out", 1, x.explains(3, 0, ab));
        CHECK.due("20: not a part of it", Check.NONE, x.explains(3, 0, cb));
        CHECK.due("21: two say it", 2, x.covers(0, 0, ab));
        CHECK.due("21: one does", 1, x.covers(1, 0, ab));
        CHECK.due("21: one does by no changes", 1, x.covers(2, 0, ab));
        CHECK.due("21: none of another thing", 0, x.covers(0, 1, ab));
        Check.text(x, 1, "a>0;b>0;");
        CHECK.due("21: an empty row is none", 0, x.covers(1, 0, ab));
        CHECK.due("20: an empty row explains none", Check.NONE, x.explains(3, 0, ab));
        x.day(5);
        x.take(1);
        CHECK.due("21: as known today", 1, x.covers(0, 0, ab));
        CHECK.due("20: as known today", Check.MISSING, x.explains(1, 0, ab));
        CHECK.due("20: village 4", Check.BEYOND, x.explains(4, 0, ab));
        CHECK.due("20: thing 6", Check.BEYOND, x.explains(0, 6, ab));
        CHECK.due("20: form 3", Check.BEYOND, x.explains(0, 0, 3));
        CHECK.due("20: BEYOND ahead of MISSING", Check.BEYOND, x.explains(1, 0, -1));
        CHECK.due("21: text 4", Check.BEYOND, x.covers(4, 0, ab));
        CHECK.due("21: text -1", Check.BEYOND, x.covers(-1, 0, ab));
        CHECK.due("21: thing -1", Check.BEYOND, x.covers(0, -1, ab));
        CHECK.due("21: form 3", Check.BEYOND, x.covers(0, 0, 3));
    }
}
