/** Promises 16 to 21: the tape, texts of changes, what forms become by them. */
public final class ChangesTest {
    private static final String TWELVE = "a>b;".repeat(12);

    public static void main(String[] args) throws IllegalAccessException {
        Sentences.run(ChangesTest.class);
    }

    @Says(promise = 16, term = 3, text = "A TEXT of CHANGES stands on THE TAPE (80 bytes at most)")
    static void theTapeHasEightyBytes(Check check) {
        DialectAtlas x = new DialectAtlas();
        String text = "a>b/#_#;".repeat(10);
        check.due("80 bytes", 80, Given.feed(x, text));
        check.due("one more", Check.FULL, x.feed(1, ';'));
        check.due("all 80 are read", -1, x.text(0));
        check.due("as ten changes", 10, x.changes(0));
    }

    @Says(promise = {17, 18}, term = 3, text = "CHANGES, one behind the other, 12 at most")
    static void twelveChangesAtMost(Check check) {
        DialectAtlas x = new DialectAtlas();
        check.due("twelve", -1, Given.text(x, 0, TWELVE));
        check.due("how many", 12, x.changes(0));
        check.due("thirteen", 48, Given.text(x, 0, TWELVE + "a>b;"));
        check.due("twelve of both shapes", -1, Given.text(x, 0, "a>b/#_#;".repeat(8) + "a>b;".repeat(4)));
    }

    @Says(promise = 17, term = 3, text = "each: a letter, >, a letter or 0")
    static void aChangeTurnsALetter(Check check) {
        fault(check, "a>b;", -1);
        fault(check, "z>a;", -1);
        fault(check, "a>z;", -1);
        fault(check, "a>0;", -1);
        fault(check, "0>b;", 0);
        fault(check, "#>b;", 0);
        fault(check, "*>b;", 0);
        fault(check, ";", 0);
        fault(check, "`>b;", 0);
        fault(check, "{>b;", 0);
        fault(check, "A>b;", 0);
        fault(check, "Z>b;", 0);
        fault(check, (char) 225 + ">b;", 0);
        fault(check, "a;b;", 1);
        fault(check, "a=b;", 1);
        fault(check, "a?b;", 1);
        fault(check, "ab>;", 1);
        fault(check, "a>`;", 2);
        fault(check, "a>{;", 2);
        fault(check, "a>1;", 2);
        fault(check, "a>/;", 2);
        fault(check, "a>#;", 2);
        fault(check, "a>*;", 2);
        fault(check, "a>;", 2);
    }

    @Says(promise = 17, term = 3, text = "perhaps / and a context: a letter or # or * , _ , a letter or # or *")
    static void aChangeMayHaveAContext(Check check) {
        for (String left : new String[] {"a", "z", "#", "*"}) {
            for (String right : new String[] {"a", "z", "#", "*"}) {
                fault(check, "a>b/" + left + "_" + right + ";", -1);
            }
        }
        fault(check, "a>b_", 3);
        fault(check, "a>b.", 3);
        fault(check, "a>b/0_c;", 4);
        fault(check, "a>b/_c;", 4);
        fault(check, "a>b/`_c;", 4);
        fault(check, "a>b/{_c;", 4);
        fault(check, "a>b/A_c;", 4);
        fault(check, "a>b/;", 4);
        fault(check, "a>b/cc;", 5);
        fault(check, "a>b/c;", 5);
        fault(check, "a>b/c_0;", 6);
        fault(check, "a>b/c__;", 6);
        fault(check, "a>b/c_`;", 6);
        fault(check, "a>b/c_{;", 6);
        fault(check, "a>b/c_;", 6);
    }

    @Says(promise = 17, term = 3, text = "; then ; .")
    static void aChangeEndsWithItsSign(Check check) {
        fault(check, "a>bb", 3);
        fault(check, "a>b:", 3);
        fault(check, "a>b" + (char) 0, 3);
        fault(check, "a>b/c_d/", 7);
        fault(check, "a>b/c_dd", 7);
        fault(check, "a>b;;", 4);
        fault(check, "a>b; c>d;", 4);
        fault(check, "a>b/*_*;c>d;e>f/g_h;", -1);
    }

    @Says(promise = 19, term = 3, text = "(which means nothing)")
    static void nullMeansNothing(Check check) {
        become(check, "aba", "a>0;", "b");
        become(check, "aba", "b>0;", "aa");
    }

    @Says(promise = 19, term = 3, text = "(# is the end of the row, * anything or the end.)")
    static void endsAndAnythings(Check check) {
        become(check, "aaa", "a>b/#_*;", "baa");
        become(check, "aaa", "a>b/*_#;", "aab");
        become(check, "aaa", "a>b/#_#;", "aaa");
        become(check, "a", "a>b/#_#;", "b");
        become(check, "a", "a>b/*_*;", "b");
        become(check, "aaa", "a>b/*_*;", "bbb");
        become(check, "aba", "b>c/#_*;", "aba");
        become(check, "aba", "b>c/*_#;", "aba");
    }

    @Says(promise = 17, term = 3, text = "FAULT: the first byte that can't stand there")
    static void theFirstFaultIsTold(Check check) {
        fault(check, "?", 0);
        fault(check, "a>b;?>?;", 4);
        fault(check, "a>b/c_d;e>f/g-?;", 13);
        fault(check, "a>b/#_#;".repeat(9) + "a>b/#_#?", 79);
    }

    @Says(promise = 17, term = 3, text = "or of a CHANGE above 12")
    static void theFirstByteOfAThirteenthIsAFault(Check check) {
        fault(check, TWELVE, -1);
        fault(check, TWELVE + "c", 48);
        fault(check, TWELVE + "c>d;", 48);
        fault(check, TWELVE + "?", 48);
        fault(check, "a>b/#_#;".repeat(7) + "a>b;".repeat(6), 76);
        fault(check, "?" + TWELVE + "c", 0);
    }

    @Says(promise = 17, term = 3, text = "how many there are, if it ends too early.")
    static void itEndsTooEarly(Check check) {
        fault(check, "a", 1);
        fault(check, "a>", 2);
        fault(check, "a>b", 3);
        fault(check, "a>0", 3);
        fault(check, "a>b/", 4);
        fault(check, "a>b/c", 5);
        fault(check, "a>b/c_", 6);
        fault(check, "a>b/c_d", 7);
        fault(check, "a>b;c", 5);
        fault(check, "a>b/#_#;".repeat(9) + "a>b;a>b/", 80);
    }

    private static void fault(Check check, String text, int due) {
        DialectAtlas x = new DialectAtlas();
        check.due(text, due, Given.text(x, 0, text));
        check.due("findings behind " + text, 0, x.count(8));
    }

    @Says(promise = {17, 18}, term = 3, text = "An empty TAPE has no CHANGES.")
    static void anEmptyTape(Check check) {
        DialectAtlas x = new DialectAtlas();
        Given.text(x, 2, "a>b;c>d;");
        check.due("it has no fault", -1, x.text(2));
        check.due("nor changes", 0, x.changes(2));
    }

    @Says(promise = {17, 18, 19, 21}, term = 3, text = "TEXTS 0 to 3.")
    static void theLastTextIsThree(Check check) {
        DialectAtlas x = Given.speaker("a", "b");
        x.answer(0, 0, 1);
        check.due("the last", -1, Given.text(x, 3, "a>b;"));
        check.due("the first", -1, Given.text(x, 0, "a>c;c>b;"));
        check.due("changes of the last", 1, x.changes(3));
        check.due("changes of the first", 2, x.changes(0));
        check.due("what a becomes by the last", 1, x.becomes(0, 3, 0));
        check.due("what the last covers", 1, x.covers(3, 0, 0));
        for (int t : new int[] {-1, 4, Integer.MIN_VALUE, Integer.MAX_VALUE}) {
            check.due("text " + t, Check.BEYOND, x.text(t));
            check.due("changes of " + t, Check.BEYOND, x.changes(t));
            check.due("what a becomes by " + t, Check.BEYOND, x.becomes(0, t, -1));
            check.due("what is covered by " + t, Check.BEYOND, x.covers(t, 0, 0));
        }
    }

    @Says(promise = 19, term = 3, text = "To DO a CHANGE to a row of SOUNDS: each SOUND of it that is the first "
            + "letter, and has that context")
    static void eachSoundWithTheContext(Check check) {
        become(check, "kita", "k>c;", "cita");
        become(check, "aaa", "a>b;", "bbb");
        become(check, "ab", "a>a;", "ab");
        become(check, "abab", "b>c/a_a;", "acab");
        become(check, "abab", "a>c/b_*;", "abcb");
        become(check, "abab", "a>c/*_b;", "cbcb");
        become(check, "abab", "b>0/a_#;", "aba");
    }

    @Says(promise = 19, term = 3, text = "in the row as it was ahead of this CHANGE")
    static void theContextIsThatAheadOfTheChange(Check check) {
        become(check, "aaa", "a>b/a_*;", "abb");
        become(check, "aaa", "a>b/*_a;", "bba");
        become(check, "aaaa", "a>0/a_*;", "a");
        become(check, "aaaa", "a>0/*_a;", "a");
        become(check, "zzzzzzzz", "z>a/z_z;", "zaaaaaaz");
        become(check, "zzzzzzzz", "z>0/z_z;", "zz");
        become(check, "xay", "a>0/x_y;x>z/#_y;", "zy");
    }

    @Says(promise = 19, term = 3, text = "becomes the second letter, or falls out.")
    static void becomesOrFallsOut(Check check) {
        become(check, "abcdefgh", "h>z;", "abcdefgz");
        become(check, "abcdefgh", "h>0;", "abcdefg");
        become(check, "abcdefgh", "a>0;", "bcdefgh");
    }

    @Says(promise = 19, term = 3, text = "What a row BECOMES by a TEXT: all its CHANGES done, in order")
    static void allChangesInOrder(Check check) {
        become(check, "aba", "a>b;b>c;", "ccc");
        become(check, "aba", "b>c;a>b;", "bcb");
        become(check, "azb", "z>0;a>c/#_b;", "cb");
        become(check, "a", "a>b;b>c;c>d;d>e;e>f;f>g;g>h;h>i;i>j;j>k;k>l;l>m;", "m");
        become(check, "abcdefgh", "", "abcdefgh");
    }

    @Says(promise = {19, 20, 21}, term = 3, text = "an empty row is none.")
    static void anEmptyRowIsNone(Check check) {
        become(check, "aaaaaaaa", "a>0;", "");
        become(check, "aaa", "a>0;b>c/#_#;", "");
        DialectAtlas x = Given.sayers("a", "");
        Given.text(x, 0, "a>0;");
        Given.text(x, 1, "a>b;");
        Given.text(x, 2, "a>b;");
        Given.text(x, 3, "a>b;");
        check.due("it explains nothing", Check.NONE, x.explains(0, 0, 0));
        check.due("a village that says nothing does not say it", 0, x.covers(0, 0, 0));
    }

    private static void become(Check check, String old, String text, String due) {
        DialectAtlas x = new DialectAtlas();
        int form = Given.form(x, old);
        check.due(text, -1, Given.text(x, 2, text));
        check.due("how many " + old + " has by " + text, due.length(), x.becomes(form, 2, -1));
        for (int i = 0; i < due.length(); i++) {
            check.due(old + " by " + text + " at " + i, due.charAt(i) - 'a', x.becomes(form, 2, i));
        }
        check.due("behind the last", Check.BEYOND, x.becomes(form, 2, due.length()));
        check.due("the form stays", old.length(), x.sound(form, -1));
        check.due("no form is made", 1, x.count(3));
    }

    @Says(promise = 20, term = 3, text = "A TEXT EXPLAINS a VILLAGE'S FORM by an old FORM if that BECOMES just that.")
    static void explainedIfItBecomesJustThat(Check check) {
        DialectAtlas x = Given.sayers("b", "bb", "c");
        int old = Given.form(x, "ab");
        Given.text(x, 0, "a>0;");
        Given.text(x, 1, "a>b;");
        check.due("by falling out", 0, x.explains(0, 0, old));
        check.due("not just a beginning of it", 1, x.explains(1, 0, old));
        check.due("not at all", Check.NONE, x.explains(2, 0, old));
    }

    @Says(promise = 16, text = "The n lowest bytes of a number, the lowest first, come behind THE TAPE: how many it has.")
    static void bytesComeBehindTheTape(Check check) {
        DialectAtlas x = new DialectAtlas();
        check.due("one of several", 1, x.feed(1, Given.bytes("a???")));
        check.due("three of several", 4, x.feed(3, Given.bytes(">b;?????")));
        check.due("eight", 12, x.feed(8, Given.bytes("c>d/#_z;")));
        check.due("in that order they are a text", -1, x.text(0));
        check.due("of two changes", 2, x.changes(0));
        check.due("the tape is fed anew", 8, x.feed(8, -1L));
    }

    @Says(promise = 16, text = "BEYOND: n is not 1 to 8.")
    static void noSuchNumberOfBytes(Check check) {
        DialectAtlas x = new DialectAtlas();
        check.due("0", Check.BEYOND, x.feed(0, 0));
        check.due("9", Check.BEYOND, x.feed(9, 0));
        check.due("-1", Check.BEYOND, x.feed(-1, 0));
        check.due("the greatest int", Check.BEYOND, x.feed(Integer.MAX_VALUE, 0));
        check.due("the least int", Check.BEYOND, x.feed(Integer.MIN_VALUE, 0));
        check.due("1", 1, x.feed(1, 0));
        check.due("8", 9, x.feed(8, 0));
    }

    @Says(promise = 16, text = "FULL.")
    static void noRoomOnTheTape(Check check) {
        DialectAtlas x = new DialectAtlas();
        for (int i = 1; i <= 9; i++) {
            check.due("eight more", 8 * i, x.feed(8, 0));
        }
        check.due("79", 79, x.feed(7, 0));
        check.due("two more are too many", Check.FULL, x.feed(2, 0));
        check.due("one is not", 80, x.feed(1, 0));
        check.due("one more is then", Check.FULL, x.feed(1, 0));
        check.due("eight more are", Check.FULL, x.feed(8, 0));
        x.text(0);
        check.due("a tape that was read has room", 8, x.feed(8, 0));
    }

    @Says(promise = 17, text = "THE TAPE, which is empty then, is TEXT t: -1 (no finding)")
    static void theTapeIsEmptyThen(Check check) {
        DialectAtlas x = new DialectAtlas();
        Given.feed(x, "a>b;");
        check.due("read", -1, x.text(1));
        check.due("no finding is counted", 0, x.count(8));
        check.due("how many", 1, x.changes(1));
        check.due("other texts stay", 0, x.changes(0));
        check.due("the tape is empty", 1, x.feed(1, 'a'));
        Given.text(x, 1, ">b;c>d;e>f;");
        check.due("a longer one in its place", 3, x.changes(1));
        Given.text(x, 1, "a>b;");
        check.due("a shorter one in its place", 1, x.changes(1));
    }

    @Says(promise = 17, text = "with a FAULT its place, and TEXT t stays.")
    static void withAFaultTheTextStays(Check check) {
        DialectAtlas x = Given.speaker("a");
        Given.text(x, 1, "a>c;b>d;");
        check.due("the place", 5, Given.text(x, 1, "a>e;b;"));
        check.due("how many changes", 2, x.changes(1));
        check.due("what they do", 2, x.becomes(0, 1, 0));
        check.due("the tape is empty behind a fault", 1, x.feed(1, 'a'));
        check.due("and with a place of 0", 0, Given.text(new DialectAtlas(), 1, "?"));
    }

    @Says(promise = 17, text = "BEYOND: no such TEXT (THE TAPE stays).")
    static void noSuchTextToRead(Check check) {
        DialectAtlas x = new DialectAtlas();
        Given.feed(x, "a>b;");
        check.due("text 4", Check.BEYOND, x.text(4));
        check.due("text -1", Check.BEYOND, x.text(-1));
        check.due("the greatest int", Check.BEYOND, x.text(Integer.MAX_VALUE));
        check.due("the tape goes on", 8, Given.feed(x, "c>d;"));
        check.due("and is read", -1, x.text(3));
        check.due("whole", 2, x.changes(3));
    }

    @Says(promise = 18, text = "How many CHANGES a TEXT has.")
    static void howManyChanges(Check check) {
        DialectAtlas x = new DialectAtlas();
        check.due("none at first", 0, x.changes(3));
        Given.text(x, 3, "a>b;c>d/e_f;");
        check.due("two", 2, x.changes(3));
        Given.text(x, 3, TWELVE);
        check.due("twelve", 12, x.changes(3));
        x.text(3);
        check.due("none again", 0, x.changes(3));
    }

    @Says(promise = 18, text = "BEYOND.")
    static void noChangesOfNoText(Check check) {
        DialectAtlas x = new DialectAtlas();
        check.due("text 4", Check.BEYOND, x.changes(4));
        check.due("text -1", Check.BEYOND, x.changes(-1));
        check.due("the greatest int", Check.BEYOND, x.changes(Integer.MAX_VALUE));
    }

    @Says(promise = 19, text = "SOUND i of what a FORM BECOMES by a TEXT")
    static void soundsOfWhatItBecomes(Check check) {
        DialectAtlas x = Given.speaker("abz");
        Given.text(x, 0, "a>k;b>0;");
        check.due("the first", 10, x.becomes(0, 0, 0));
        check.due("the last", 25, x.becomes(0, 0, 1));
        check.due("by a text of no changes", 1, x.becomes(0, 1, 1));
    }

    @Says(promise = 19, text = "i -1: how many (0: it is none).")
    static void howManySoundsItHas(Check check) {
        DialectAtlas x = Given.speaker("ab");
        Given.text(x, 0, "a>0;");
        Given.text(x, 1, "a>0;b>0;");
        check.due("two", 2, x.becomes(0, 2, -1));
        check.due("one", 1, x.becomes(0, 0, -1));
        check.due("none", 0, x.becomes(0, 1, -1));
        check.due("no finding is counted", 0, x.count(8));
    }

    @Says(promise = 19, text = "BEYOND: no such FORM")
    static void noFormToBecome(Check check) {
        check.due("no forms at all", Check.BEYOND, new DialectAtlas().becomes(0, 0, -1));
        DialectAtlas x = Given.speaker("a");
        check.due("form 1", Check.BEYOND, x.becomes(1, 0, -1));
        check.due("form -1", Check.BEYOND, x.becomes(-1, 0, -1));
        check.due("the greatest int", Check.BEYOND, x.becomes(Integer.MAX_VALUE, 0, -1));
    }

    @Says(promise = 19, text = "TEXT, SOUND.")
    static void noTextOrSoundOfWhatItBecomes(Check check) {
        DialectAtlas x = Given.speaker("abc");
        Given.text(x, 0, "b>0;");
        Given.text(x, 1, "a>0;b>0;c>0;");
        check.due("text 4", Check.BEYOND, x.becomes(0, 4, -1));
        check.due("text -1", Check.BEYOND, x.becomes(0, -1, -1));
        check.due("behind the last", Check.BEYOND, x.becomes(0, 0, 2));
        check.due("-2", Check.BEYOND, x.becomes(0, 0, -2));
        check.due("the first of none", Check.BEYOND, x.becomes(0, 1, 0));
        check.due("the greatest int", Check.BEYOND, x.becomes(0, 0, Integer.MAX_VALUE));
        check.due("the least int", Check.BEYOND, x.becomes(0, 0, Integer.MIN_VALUE));
    }

    @Says(promise = 20, text = "The least TEXT that EXPLAINS what a VILLAGE SAYS of a THING")
    static void theLeastTextThatExplains(Check check) {
        DialectAtlas x = Given.sayers("ab", "cb");
        check.due("texts of no changes", 0, x.explains(0, 0, 0));
        Given.text(x, 0, "a>d;");
        Given.text(x, 1, "a>c;");
        Given.text(x, 3, "a>c;");
        check.due("1 and 3", 1, x.explains(1, 0, 0));
        check.due("the one of no changes", 2, x.explains(0, 0, 0));
        x.text(1);
        x.text(0);
        check.due("only the last", 3, x.explains(1, 0, 0));
    }

    @Says(promise = 20, text = ", as KNOWN TODAY, by an old FORM.")
    static void explainedAsKnownToday(Check check) {
        DialectAtlas x = Given.sayers("b");
        Given.form(x, "a");
        Given.text(x, 0, "a>b;");
        x.day(5);
        x.answer(0, 0, 1);
        check.due("what is said today", 1, x.explains(0, 0, 1));
        x.take(1);
        check.due("taken back today", 0, x.explains(0, 0, 1));
    }

    @Says(promise = 20, text = "BEYOND.")
    static void explainsNothingOutside(Check check) {
        check.due("no villages at all", Check.BEYOND, new DialectAtlas().explains(0, 0, 0));
        DialectAtlas x = Given.sayers("a");
        check.due("village 1", Check.BEYOND, x.explains(1, 0, 0));
        check.due("village -1", Check.BEYOND, x.explains(-1, 0, 0));
        check.due("thing 6", Check.BEYOND, x.explains(0, 6, 0));
        check.due("thing -1", Check.BEYOND, x.explains(0, -1, 0));
        check.due("form 1", Check.BEYOND, x.explains(0, 0, 1));
        check.due("form -1", Check.BEYOND, x.explains(0, 0, -1));
    }

    @Says(promise = 20, text = "MISSING: it says nothing.")
    static void nothingToExplain(Check check) {
        DialectAtlas x = Given.sayers("a", "");
        check.due("never asked", Check.MISSING, x.explains(1, 0, 0));
        check.due("of another thing", Check.MISSING, x.explains(0, 1, 0));
        x.take(0);
        check.due("taken back", Check.MISSING, x.explains(0, 0, 0));
    }

    @Says(promise = 20, text = "NONE: no TEXT does.")
    static void noTextExplains(Check check) {
        DialectAtlas x = Given.sayers("a", "b");
        check.due("four texts of no changes", Check.NONE, x.explains(0, 0, 1));
        Given.text(x, 3, "b>a;");
        check.due("the last one does", 3, x.explains(0, 0, 1));
    }

    @Says(promise = 21, text = "How many VILLAGES say of a THING, as KNOWN TODAY, what an old FORM BECOMES by a TEXT.")
    static void howManyAreCovered(Check check) {
        DialectAtlas x = Given.sayers("b", "a", "b", "", "b");
        Given.text(x, 0, "a>b;");
        check.due("three", 3, x.covers(0, 0, 1));
        check.due("one, by no changes", 1, x.covers(1, 0, 1));
        check.due("of another thing", 0, x.covers(0, 1, 1));
        x.day(5);
        x.take(0);
        check.due("one is taken back today", 2, x.covers(0, 0, 1));
        Given.text(x, 0, "a>k;");
        check.due("what is no form", 0, x.covers(0, 0, 1));
    }

    @Says(promise = 21, text = "How many VILLAGES say of a THING")
    static void allOrNoneAreCovered(Check check) {
        DialectAtlas x = new DialectAtlas();
        Given.form(x, "a");
        check.due("no villages", 0, x.covers(0, 0, 0));
        for (int v = 0; v < 12; v++) {
            Given.say(x, x.village(0, 1), 0, 0);
        }
        check.due("all twelve", 12, x.covers(0, 0, 0));
    }

    @Says(promise = 21, text = "BEYOND.")
    static void coversNothingOutside(Check check) {
        check.due("no forms at all", Check.BEYOND, new DialectAtlas().covers(0, 0, 0));
        DialectAtlas x = Given.sayers("a");
        check.due("text 4", Check.BEYOND, x.covers(4, 0, 0));
        check.due("text -1", Check.BEYOND, x.covers(-1, 0, 0));
        check.due("thing 6", Check.BEYOND, x.covers(0, 6, 0));
        check.due("thing -1", Check.BEYOND, x.covers(0, -1, 0));
        check.due("form 1", Check.BEYOND, x.covers(0, 0, 1));
        check.due("form -1", Check.BEYOND, x.covers(0, 0, -1));
    }
}
