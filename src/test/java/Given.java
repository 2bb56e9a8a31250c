/** What a test needs on an atlas ahead of what it looks at. */
final class Given {
    private Given() {
    }

    /** An atlas with so many villages of one folk each, all at place 0. */
    static DialectAtlas villages(int n) {
        DialectAtlas x = new DialectAtlas();
        for (int v = 0; v < n; v++) {
            x.village(0, 1);
        }
        return x;
    }

    /** An atlas with a village for each of these numbers of folk, one behind the other by roads of a length. */
    static DialectAtlas line(int length, int... folk) {
        DialectAtlas x = new DialectAtlas();
        for (int v = 0; v < folk.length; v++) {
            x.village(0, folk[v]);
            if (v > 0) {
                x.road(v - 1, v, length);
            }
        }
        return x;
    }

    /** An atlas with one village, one speaker of trust 1 in it, and these forms. */
    static DialectAtlas speaker(String... forms) {
        DialectAtlas x = villages(1);
        x.asked(0, 0, 1);
        for (String form : forms) {
            form(x, form);
        }
        return x;
    }

    /** An atlas with a village for each form, which says it of thing 0; of an empty one it says nothing. */
    static DialectAtlas sayers(String... forms) {
        DialectAtlas x = new DialectAtlas();
        for (String form : forms) {
            int v = x.village(0, 1);
            if (!form.isEmpty()) {
                say(x, v, 0, form(x, form));
            }
        }
        return x;
    }

    /** One more speaker in a village tells a form of a thing today: the number of the answer. */
    static int say(DialectAtlas x, int village, int thing, int form) {
        return x.answer(x.asked(village, 0, 1), thing, form);
    }

    static int form(DialectAtlas x, String letters) {
        return x.form(letters.length(), sounds(letters));
    }

    /** So many forms, no two alike. */
    static void forms(DialectAtlas x, int n) {
        for (int f = 0; f < n; f++) {
            x.form(2, f % 26 | f / 26 << 8);
        }
    }

    /** Letters a to z as a row of sounds. */
    static long sounds(String letters) {
        long number = 0;
        for (int i = 0; i < letters.length(); i++) {
            number |= (long) (letters.charAt(i) - 'a') << 8 * i;
        }
        return number;
    }

    /** A text as the number whose lowest byte is its first sign. */
    static long bytes(String text) {
        long number = 0;
        for (int i = 0; i < text.length(); i++) {
            number |= (long) (text.charAt(i) & 255) << 8 * i;
        }
        return number;
    }

    /** Feeds a text of any length; what the last feed answered. */
    static int feed(DialectAtlas x, String text) {
        int answer = 0;
        for (int i = 0; i < text.length(); i += 8) {
            String part = text.substring(i, Math.min(i + 8, text.length()));
            answer = x.feed(part.length(), bytes(part));
        }
        return answer;
    }

    static int text(DialectAtlas x, int t, String text) {
        feed(x, text);
        return x.text(t);
    }

    /** A sheet of 8 bits with these numbers. */
    static void sheet(DialectAtlas x, int s, int... numbers) {
        x.sheet(s, 8, numbers.length);
        for (int i = 0; i < numbers.length; i++) {
            x.put(s, i, numbers[i]);
        }
    }
}
