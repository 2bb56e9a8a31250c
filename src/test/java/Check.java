/** Counts what the calls of one test answer against what is due, and tells each that differs. */
final class Check {
    static final int BEYOND = -100001;
    static final int MISSING = -100002;
    static final int SIZE = -100003;
    static final int KIND = -100004;
    static final int FULL = -100005;
    static final int NONE = -100006;
    static final int TAKEN = -100007;
    static final int CUT = -100008;

    private int checked;
    private int wrong;

    void due(String what, long want, long got) {
        checked++;
        if (got != want) {
            wrong++;
            System.out.println(what + " answered " + got + ", due is " + want);
        }
    }

    void holds(String what, boolean isSo) {
        checked++;
        if (!isSo) {
            wrong++;
            System.out.println(what + " does not hold");
        }
    }

    int wrong() {
        return wrong;
    }

    void end() {
        System.out.println(checked + " answers checked, " + wrong + " not as due");
        if (wrong != 0 || checked == 0) {
            System.exit(1);
        }
    }

    /** A row of sounds, or a text, as the number whose lowest byte is its first sign. */
    static long bytes(String text) {
        long number = 0;
        for (int i = 0; i < text.length(); i++) {
            number |= (long) (text.charAt(i) & 255) << 8 * i;
        }
        return number;
    }

    /** Letters a to z as a row of sounds. */
    static long sounds(String letters) {
        long number = 0;
        for (int i = 0; i < letters.length(); i++) {
            number |= (long) (letters.charAt(i) - 'a') << 8 * i;
        }
        return number;
    }

    static int form(DialectAtlas atlas, String letters) {
        return atlas.form(letters.length(), sounds(letters));
    }

    /** Feeds a text of any length; what the last feed answered. */
    static int feed(DialectAtlas atlas, String text) {
        int answer = 0;
        for (int i = 0; i < text.length(); i += 8) {
            String part = text.substring(i, Math.min(i + 8, text.length()));
            answer = atlas.feed(part.length(), bytes(part));
        }
        return answer;
    }

    static int text(DialectAtlas atlas, int t, String text) {
        feed(atlas, text);
        return atlas.text(t);
    }
}
