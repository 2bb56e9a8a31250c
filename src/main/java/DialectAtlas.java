import java.util.Arrays;

/**
 * A dialect atlas, as ../shared/DOC.md promises it. Words in capitals in that document have their
 * meaning here too. Every refusal is a finding, an answer below -99999; nothing is ever thrown.
 */
public final class DialectAtlas {
    private static final int BEYOND = -100001;
    private static final int MISSING = -100002;
    private static final int SIZE = -100003;
    private static final int KIND = -100004;
    private static final int FULL = -100005;
    private static final int NONE = -100006;
    private static final int TAKEN = -100007;
    private static final int CUT = -100008;

    private static final int THINGS = 6;
    private static final int LAST_DAY = 999;
    private static final int MOST_YEARS = 30;
    /** What the classes inside answer where there is nothing; the findings are told by the face alone. */
    private static final int NOTHING = -1;
    /** Above every walk, every sum of distances and all folk together. */
    private static final int ABOVE_ALL = 1000000;

    private final Land land = new Land();
    private final Asked people = new Asked();
    private final Forms lexicon = new Forms();
    private final Answers ledger = new Answers(people);
    private final Texts texts = new Texts(lexicon);
    private final Border divide = new Border(land, ledger);
    private final Dialects parting = new Dialects(land, lexicon, ledger);
    private final Tour tour = new Tour(land);
    private final Spread fashion = new Spread(land);
    private final Sheets sheets = new Sheets();
    private final History history = new History();
    private final int[] pulls = new int[Forms.MOST];
    private int today;
    private int findings;

    public DialectAtlas() {
    }

    // ---- villages, roads, days

    public int village(int place, int folk) {
        if (place < 0 || place > 9999 || folk < 1 || folk > 999) {
            return finding(BEYOND);
        }
        if (land.size() >= Land.MOST) {
            return finding(FULL);
        }
        history.note(History.VILLAGE, 0, 0);
        return land.settle(place, folk);
    }

    public int road(int one, int two, int length) {
        if (!land.has(one) || !land.has(two) || length < 0 || length > 99) {
            return finding(BEYOND);
        }
        if (one == two) {
            return finding(SIZE);
        }
        int before = land.lengthOf(one, two);
        history.note(History.ROAD, land.pair(one, two), before);
        land.lay(one, two, length);
        return before;
    }

    public int walk(int one, int two) {
        if (!land.has(one) || !land.has(two)) {
            return finding(BEYOND);
        }
        land.walkFrom(1 << one);
        return land.reaches(two) ? land.walkTo(two) : finding(CUT);
    }

    public int day(int day) {
        if (!isDay(day) || day < today) {
            return finding(BEYOND);
        }
        int before = today;
        history.note(History.DAY, 0, before);
        today = day;
        return before;
    }

    // ---- the asked, forms, answers

    public int asked(int village, int kind, int trust) {
        if (!land.has(village) || !Asked.isKind(kind) || trust < 1 || trust > 9) {
            return finding(BEYOND);
        }
        if (people.size() >= Asked.MOST) {
            return finding(FULL);
        }
        history.note(History.ASKED, 0, 0);
        return people.meet(village, kind, trust);
    }

    public int as(int who, int kind) {
        if (!people.has(who) || !Asked.isKind(kind)) {
            return finding(BEYOND);
        }
        return people.isUnder(who, kind) ? people.weightOf(who) : finding(KIND);
    }

    public int form(int size, long sounds) {
        if (!lexicon.read(size, sounds)) {
            return finding(BEYOND);
        }
        int like = lexicon.findRead();
        // One that is there already needs no room, so FULL is asked only for a new one.
        if (like == NOTHING && lexicon.size() >= Forms.MOST) {
            return finding(FULL);
        }
        history.note(History.FORM, 0, like == NOTHING ? 1 : 0);
        return like == NOTHING ? lexicon.addRead() : like;
    }

    public int sound(int form, int i) {
        if (!lexicon.has(form) || i < -1 || i >= lexicon.lengthOf(form)) {
            return finding(BEYOND);
        }
        return i < 0 ? lexicon.lengthOf(form) : lexicon.soundOf(form, i);
    }

    public int far(int one, int two) {
        if (!lexicon.has(one) || !lexicon.has(two)) {
            return finding(BEYOND);
        }
        return lexicon.apart(one, two);
    }

    public int answer(int who, int thing, int form) {
        if (!people.has(who) || !isThing(thing) || !lexicon.has(form)) {
            return finding(BEYOND);
        }
        if (ledger.size() >= Answers.MOST) {
            return finding(FULL);
        }
        history.note(History.ANSWER, 0, 0);
        return ledger.write(who, thing, form, today);
    }

    public int take(int answer) {
        if (!ledger.has(answer)) {
            return finding(BEYOND);
        }
        if (ledger.isTaken(answer)) {
            return finding(TAKEN);
        }
        history.note(History.TAKE, answer, 0);
        ledger.strike(answer, today);
        return 1;
    }

    public int answerIs(int answer, int what) {
        if (!ledger.has(answer) || what < 0 || what > 4) {
            return finding(BEYOND);
        }
        return ledger.partOf(answer, what);
    }

    public int says(int village, int thing, int day) {
        if (!land.has(village) || !isThing(thing) || !isDay(day)) {
            return finding(BEYOND);
        }
        int said = ledger.saidBy(village, thing, day);
        return said == NOTHING ? finding(NONE) : said;
    }

    public int weight(int village, int thing, int form, int day) {
        if (!land.has(village) || !isThing(thing) || !lexicon.has(form) || !isDay(day)) {
            return finding(BEYOND);
        }
        return ledger.weightFor(village, thing, form, day);
    }

    // ---- sound changes

    public int feed(int n, long bytes) {
        if (n < 1 || n > 8) {
            return finding(BEYOND);
        }
        if (!texts.hasRoomFor(n)) {
            return finding(FULL);
        }
        return texts.append(n, bytes);
    }

    public int text(int t) {
        if (!Texts.isText(t)) {
            return finding(BEYOND);
        }
        return texts.readInto(t);
    }

    public int changes(int t) {
        if (!Texts.isText(t)) {
            return finding(BEYOND);
        }
        return texts.sizeOf(t);
    }

    public int becomes(int form, int t, int i) {
        if (!lexicon.has(form) || !Texts.isText(t)) {
            return finding(BEYOND);
        }
        int size = texts.turn(form, t);
        if (i < -1 || i >= size) {
            return finding(BEYOND);
        }
        return i < 0 ? size : texts.turnedSound(i);
    }

    public int explains(int village, int thing, int old) {
        if (!land.has(village) || !isThing(thing) || !lexicon.has(old)) {
            return finding(BEYOND);
        }
        int said = ledger.saidBy(village, thing, today);
        if (said == NOTHING) {
            return finding(MISSING);
        }
        for (int t = 0; t < Texts.MOST; t++) {
            if (texts.turnedForm(old, t) == said) {
                return t;
            }
        }
        return finding(NONE);
    }

    public int covers(int t, int thing, int old) {
        if (!Texts.isText(t) || !isThing(thing) || !lexicon.has(old)) {
            return finding(BEYOND);
        }
        int made = texts.turnedForm(old, t);
        int covered = 0;
        for (int v = 0; v < land.size() && made != NOTHING; v++) {
            if (ledger.saidBy(v, thing, today) == made) {
                covered++;
            }
        }
        return covered;
    }

    // ---- borders, dialects

    public int border(int thing, int one, int two, int what) {
        if (!isThing(thing) || !lexicon.has(one) || !lexicon.has(two) || what < 0 || what > 3) {
            return finding(BEYOND);
        }
        if (one == two) {
            return finding(SIZE);
        }
        divide.draw(thing, one, two, today);
        return divide.partOf(what);
    }

    public int distance(int one, int two, int day) {
        if (!land.has(one) || !land.has(two) || !isDay(day)) {
            return finding(BEYOND);
        }
        return parting.between(one, two, day);
    }

    public int dialects(int k, int what) {
        if (k < 1 || k > Dialects.MOST || what < -1 || what >= land.size()) {
            return finding(BEYOND);
        }
        if (land.size() == 0) {
            return finding(NONE);
        }
        if (land.size() > Dialects.MOST_VILLAGES) {
            return finding(SIZE);
        }
        parting.search(k, today);
        return what < 0 ? parting.leastSum() : parting.dialectOf(what);
    }

    public int proves(int s, int v) {
        if (!Sheets.isSheet(s)) {
            return finding(BEYOND);
        }
        if (sheets.isMissing(s)) {
            return finding(MISSING);
        }
        if (land.size() > Dialects.MOST_VILLAGES) {
            return finding(SIZE);
        }
        return parting.judge(sheets, s, v, today);
    }

    // ---- asking, spreading

    public int next(int thing) {
        if (!isThing(thing)) {
            return finding(BEYOND);
        }
        int silent = land.all() & ~sayers(thing);
        return silent == 0 ? finding(NONE) : farthest(silent);
    }

    public int foretold(int village, int thing) {
        if (!land.has(village) || !isThing(thing)) {
            return finding(BEYOND);
        }
        sumPulls(village, thing);
        int best = NOTHING;
        int most = NOTHING;
        for (int f = 0; f < pulls.length; f++) {
            if (pulls[f] > most) {
                most = pulls[f];
                best = f;
            }
        }
        return best == NOTHING ? finding(NONE) : best;
    }

    public int round(int home, int set, int what) {
        if (!land.has(home) || !land.hasAll(set) || (set & 1 << home) != 0 || what < -1) {
            return finding(BEYOND);
        }
        if (Integer.bitCount(set) > Tour.MOST) {
            return finding(SIZE);
        }
        if (!land.joins(home, set)) {
            return finding(CUT);
        }
        if (what >= Integer.bitCount(set)) {
            return finding(NONE);
        }
        tour.plan(home, set);
        return what < 0 ? tour.sum() : tour.stopAt(what);
    }

    public int spread(int set, int n) {
        if (!land.hasAll(set) || n < 0 || n > MOST_YEARS) {
            return finding(BEYOND);
        }
        fashion.survey();
        return fashion.after(set, n);
    }

    public int seeds(int n) {
        if (n < 0 || n > MOST_YEARS) {
            return finding(BEYOND);
        }
        int fewest = fashion.fewest(n);
        return fewest == NOTHING ? finding(NONE) : fewest;
    }

    // ---- sheets, the whole

    public int sheet(int s, int bits, int n) {
        if (!Sheets.isSheet(s) || !Sheets.isWidth(bits)) {
            return finding(BEYOND);
        }
        if (n < 0) {
            return finding(SIZE);
        }
        if (n > Sheets.LONGEST) {
            return finding(BEYOND);
        }
        return sheets.lay(s, bits, n);
    }

    public int put(int s, int i, int v) {
        if (!Sheets.isSheet(s)) {
            return finding(BEYOND);
        }
        if (sheets.isMissing(s)) {
            return finding(MISSING);
        }
        if (i < 0 || i >= sheets.sizeOf(s)) {
            return finding(BEYOND);
        }
        sheets.write(s, i, v);
        return 0;
    }

    public int copy(int s, int from, int t, int to, int n) {
        if (!Sheets.isSheet(s) || !Sheets.isSheet(t)) {
            return finding(BEYOND);
        }
        if (sheets.isMissing(s) || sheets.isMissing(t)) {
            return finding(MISSING);
        }
        if (sheets.widthOf(s) != sheets.widthOf(t)) {
            return finding(KIND);
        }
        if (!sheets.hasPart(s, from, n) || !sheets.hasPart(t, to, n)) {
            return finding(BEYOND);
        }
        sheets.move(s, from, t, to, n);
        return n;
    }

    public int undo() {
        if (history.size() == 0) {
            return finding(NONE);
        }
        int kind = history.latestKind();
        int which = history.latestWhich();
        int before = history.latestBefore();
        switch (kind) {
            case History.VILLAGE -> land.unsettle();
            case History.ROAD -> land.lay(land.firstOf(which), land.secondOf(which), before);
            case History.ASKED -> people.forget();
            case History.FORM -> lexicon.drop(before);
            case History.ANSWER -> ledger.erase();
            case History.TAKE -> ledger.restore(which);
            default -> today = before;
        }
        return history.dropLatest();
    }

    public int count(int what) {
        return switch (what) {
            case 0 -> land.size();
            case 1 -> land.roads();
            case 2 -> people.size();
            case 3 -> lexicon.size();
            case 4 -> ledger.size();
            case 5 -> ledger.standing();
            case 6 -> today;
            case 7 -> land.folkOf(land.all());
            case 8 -> findings;
            default -> finding(BEYOND);
        };
    }

    private int finding(int which) {
        findings++;
        return which;
    }

    private static boolean isDay(int day) {
        return day >= 0 && day <= LAST_DAY;
    }

    private static boolean isThing(int thing) {
        return thing >= 0 && thing < THINGS;
    }

    private int sayers(int thing) {
        int set = 0;
        for (int v = 0; v < land.size(); v++) {
            if (ledger.saidBy(v, thing, today) != NOTHING) {
                set |= 1 << v;
            }
        }
        return set;
    }

    private int farthest(int silent) {
        // Without any village that says something all are CUT, and so all are like.
        land.walkFrom(land.all() & ~silent);
        int best = NOTHING;
        for (int v = 0; v < land.size(); v++) {
            if ((silent & 1 << v) != 0 && (best == NOTHING || isRather(v, best))) {
                best = v;
            }
        }
        return best;
    }

    private boolean isRather(int v, int other) {
        if (land.walkTo(v) != land.walkTo(other)) {
            return land.walkTo(v) > land.walkTo(other);
        }
        return land.folkAt(v) > land.folkAt(other);
    }

    /** A form that nobody says has a pull of NOTHING, for a sum of 0 is one, too. */
    private void sumPulls(int village, int thing) {
        Arrays.fill(pulls, NOTHING);
        land.walkFrom(1 << village);
        for (int v = 0; v < land.size(); v++) {
            int said = ledger.saidBy(v, thing, today);
            if (v != village && said != NOTHING && land.reaches(v)) {
                pulls[said] = Math.max(pulls[said], 0) + land.folkAt(v) / (1 + land.walkTo(v));
            }
        }
    }

    /** Villages, the roads between them, and walks by these. */
    private static final class Land {
        static final int MOST = 12;
        /** CUT is farther than all. */
        private static final int NO_WALK = ABOVE_ALL;

        private int villages;
        private final int[] x = new int[MOST];
        private final int[] y = new int[MOST];
        private final int[] folk = new int[MOST];
        private final int[] lengths = new int[MOST * MOST];
        private final int[] walks = new int[MOST];

        int size() {
            return villages;
        }

        boolean has(int v) {
            return v >= 0 && v < villages;
        }

        int all() {
            return (1 << villages) - 1;
        }

        boolean hasAll(int set) {
            return (set & ~all()) == 0;
        }

        int settle(int place, int people) {
            x[villages] = place / 100;
            y[villages] = place % 100;
            folk[villages] = people;
            return villages++;
        }

        void unsettle() {
            villages--;
        }

        int xOf(int v) {
            return x[v];
        }

        int yOf(int v) {
            return y[v];
        }

        int folkAt(int v) {
            return folk[v];
        }

        int folkOf(int set) {
            int sum = 0;
            for (int v = 0; v < villages; v++) {
                if ((set & 1 << v) != 0) {
                    sum += folk[v];
                }
            }
            return sum;
        }

        int pair(int one, int two) {
            return one * MOST + two;
        }

        int firstOf(int pair) {
            return pair / MOST;
        }

        int secondOf(int pair) {
            return pair % MOST;
        }

        int lengthOf(int one, int two) {
            return lengths[pair(one, two)];
        }

        void lay(int one, int two, int length) {
            lengths[pair(one, two)] = length;
            lengths[pair(two, one)] = length;
        }

        int roads() {
            int sum = 0;
            for (int v = 0; v < villages; v++) {
                sum += Integer.bitCount(neighboursOf(v));
            }
            return sum / 2;
        }

        int neighboursOf(int v) {
            int set = 0;
            for (int other = 0; other < villages; other++) {
                if (lengthOf(v, other) > 0) {
                    set |= 1 << other;
                }
            }
            return set;
        }

        /** Finds, for walkTo and reaches, the walk of each village from the nearest one of a set. */
        void walkFrom(int set) {
            for (int v = 0; v < villages; v++) {
                walks[v] = (set & 1 << v) != 0 ? 0 : NO_WALK;
            }
            int open = all();
            for (int step = 0; step < villages; step++) {
                int from = nearest(open);
                if (from == NOTHING) {
                    return;
                }
                open &= ~(1 << from);
                goOn(from);
            }
        }

        private int nearest(int open) {
            int best = NOTHING;
            int least = NO_WALK;
            for (int v = 0; v < villages; v++) {
                if ((open & 1 << v) != 0 && walks[v] < least) {
                    best = v;
                    least = walks[v];
                }
            }
            return best;
        }

        private void goOn(int from) {
            for (int to = 0; to < villages; to++) {
                int length = lengthOf(from, to);
                if (length > 0) {
                    walks[to] = Math.min(walks[to], walks[from] + length);
                }
            }
        }

        int walkTo(int v) {
            return walks[v];
        }

        boolean reaches(int v) {
            return walks[v] < NO_WALK;
        }

        boolean joins(int home, int set) {
            walkFrom(1 << home);
            for (int v = 0; v < villages; v++) {
                if ((set & 1 << v) != 0 && !reaches(v)) {
                    return false;
                }
            }
            return true;
        }
    }

    /** Those who are asked: where they live, of what kind they are, and what their word weighs. */
    private static final class Asked {
        static final int MOST = 20;
        private static final int SPEAKER = 0;
        private static final int ELDER = 1;
        private static final int CHILD = 2;
        private static final int TEACHER = 3;
        /** The kind that each kind is under. */
        private static final int[] ABOVE = {NOTHING, SPEAKER, SPEAKER, ELDER};

        private int size;
        private final int[] homes = new int[MOST];
        private final int[] kinds = new int[MOST];
        private final int[] trusts = new int[MOST];

        static boolean isKind(int kind) {
            return kind >= SPEAKER && kind <= TEACHER;
        }

        int size() {
            return size;
        }

        boolean has(int who) {
            return who >= 0 && who < size;
        }

        int meet(int village, int kind, int trust) {
            homes[size] = village;
            kinds[size] = kind;
            trusts[size] = trust;
            return size++;
        }

        void forget() {
            size--;
        }

        int homeOf(int who) {
            return homes[who];
        }

        boolean isUnder(int who, int kind) {
            int own = kinds[who];
            for (int level = 0; level < ABOVE.length && own != kind; level++) {
                if (own == SPEAKER) {
                    return false;
                }
                own = ABOVE[own];
            }
            return own == kind;
        }

        int weightOf(int who) {
            int trust = trusts[who];
            return switch (kinds[who]) {
                case ELDER -> 2 * trust;
                case CHILD -> trust / 2 + 1;
                case TEACHER -> 2 * (2 * trust) - 1;
                default -> trust;
            };
        }
    }

    /** Forms as rows of sounds, and how far they are from each other. */
    private static final class Forms {
        static final int MOST = 30;
        static final int LONGEST = 8;
        private static final int SOUNDS = 26;
        private static final int CLASS_SIZE = 5;
        private static final int PUT_OR_TAKEN = 2;
        private static final int WITHIN_CLASS = 1;
        private static final int ACROSS_CLASSES = 3;
        private static final int UNKNOWN = -1;

        private int size;
        private final int[] lengths = new int[MOST];
        private final int[] sounds = new int[MOST * LONGEST];
        private int readLength;
        private final int[] readRow = new int[LONGEST];
        /** What has been measured; a pair stands in the row of the later form, which a new form clears. */
        private final int[] measured = new int[MOST * MOST];
        private final int[] costs = new int[LONGEST + 1];

        int size() {
            return size;
        }

        boolean has(int form) {
            return form >= 0 && form < size;
        }

        int lengthOf(int form) {
            return lengths[form];
        }

        int soundOf(int form, int i) {
            return sounds[form * LONGEST + i];
        }

        /** Reads a row for findRead and addRead; false if it is no row of sounds. */
        boolean read(int length, long bytes) {
            if (length < 1 || length > LONGEST) {
                return false;
            }
            for (int i = 0; i < length; i++) {
                readRow[i] = (int) (bytes >>> 8 * i & 255);
                if (readRow[i] >= SOUNDS) {
                    return false;
                }
            }
            readLength = length;
            return true;
        }

        int findRead() {
            return find(readRow, readLength);
        }

        int addRead() {
            lengths[size] = readLength;
            for (int i = 0; i < readLength; i++) {
                sounds[size * LONGEST + i] = readRow[i];
            }
            Arrays.fill(measured, size * MOST, (size + 1) * MOST, UNKNOWN);
            return size++;
        }

        void drop(int howMany) {
            size -= howMany;
        }

        int find(int[] row, int length) {
            for (int f = 0; f < size; f++) {
                if (isLike(f, row, length)) {
                    return f;
                }
            }
            return NOTHING;
        }

        private boolean isLike(int form, int[] row, int length) {
            if (lengths[form] != length) {
                return false;
            }
            for (int i = 0; i < length; i++) {
                if (soundOf(form, i) != row[i]) {
                    return false;
                }
            }
            return true;
        }

        int apart(int one, int two) {
            int place = Math.max(one, two) * MOST + Math.min(one, two);
            if (measured[place] == UNKNOWN) {
                measured[place] = measure(one, two);
            }
            return measured[place];
        }

        /** costs[j] is, behind each sound of the one form, the cost of turning that start of it into j sounds. */
        private int measure(int one, int two) {
            int width = lengths[two];
            for (int j = 0; j <= width; j++) {
                costs[j] = PUT_OR_TAKEN * j;
            }
            for (int i = 0; i < lengths[one]; i++) {
                int across = costs[0];
                costs[0] += PUT_OR_TAKEN;
                for (int j = 0; j < width; j++) {
                    int changed = across + costOf(soundOf(one, i), soundOf(two, j));
                    across = costs[j + 1];
                    costs[j + 1] = Math.min(changed, Math.min(across, costs[j]) + PUT_OR_TAKEN);
                }
            }
            return costs[width];
        }

        private static int costOf(int from, int to) {
            if (from == to) {
                return 0;
            }
            return from / CLASS_SIZE == to / CLASS_SIZE ? WITHIN_CLASS : ACROSS_CLASSES;
        }
    }

    /** What was told on which day, and what a village says by that. */
    private static final class Answers {
        static final int MOST = 60;

        private final Asked people;
        private int size;
        private final int[] who = new int[MOST];
        private final int[] things = new int[MOST];
        private final int[] forms = new int[MOST];
        private final int[] toldOn = new int[MOST];
        private final int[] takenOn = new int[MOST];
        private final int[] sums = new int[Forms.MOST];

        Answers(Asked people) {
            this.people = people;
        }

        int size() {
            return size;
        }

        boolean has(int answer) {
            return answer >= 0 && answer < size;
        }

        int write(int person, int thing, int form, int day) {
            who[size] = person;
            things[size] = thing;
            forms[size] = form;
            toldOn[size] = day;
            takenOn[size] = NOTHING;
            return size++;
        }

        void erase() {
            size--;
        }

        boolean isTaken(int answer) {
            return takenOn[answer] != NOTHING;
        }

        void strike(int answer, int day) {
            takenOn[answer] = day;
        }

        void restore(int answer) {
            takenOn[answer] = NOTHING;
        }

        int standing() {
            int sum = 0;
            for (int a = 0; a < size; a++) {
                if (!isTaken(a)) {
                    sum++;
                }
            }
            return sum;
        }

        int partOf(int answer, int what) {
            return switch (what) {
                case 0 -> who[answer];
                case 1 -> things[answer];
                case 2 -> forms[answer];
                case 3 -> toldOn[answer];
                default -> takenOn[answer];
            };
        }

        private boolean isKnown(int answer, int day) {
            return toldOn[answer] <= day && (takenOn[answer] == NOTHING || takenOn[answer] > day);
        }

        private void sumWeights(int village, int thing, int day) {
            Arrays.fill(sums, 0);
            int heard = 0;
            // Days never go back, so the answer with the greatest number was told last.
            for (int a = size - 1; a >= 0; a--) {
                int person = 1 << who[a];
                if (things[a] == thing && (heard & person) == 0 && isKnown(a, day)) {
                    heard |= person;
                    if (people.homeOf(who[a]) == village) {
                        sums[forms[a]] += people.weightOf(who[a]);
                    }
                }
            }
        }

        int weightFor(int village, int thing, int form, int day) {
            sumWeights(village, thing, day);
            return sums[form];
        }

        int saidBy(int village, int thing, int day) {
            sumWeights(village, thing, day);
            int best = NOTHING;
            int most = 0;
            for (int f = 0; f < sums.length; f++) {
                if (sums[f] > most) {
                    best = f;
                    most = sums[f];
                }
            }
            return best;
        }
    }

    /** The tape, the texts of changes that are read from it, and what they make of a form. */
    private static final class Texts {
        static final int MOST = 4;
        private static final int MOST_CHANGES = 12;
        private static final int TAPE = 80;
        private static final int SHORT_CHANGE = 4;
        private static final int LONG_CHANGE = 8;
        /** A sign is a sound's number, or one of these. */
        private static final int END = 26;
        private static final int ANYTHING = 27;
        private static final int NO_SIGN = -1;

        private final Forms lexicon;
        private int fed;
        private final int[] tape = new int[TAPE];
        private final int[] sizes = new int[MOST];
        private final int[] froms = new int[MOST * MOST_CHANGES];
        private final int[] tos = new int[MOST * MOST_CHANGES];
        private final int[] lefts = new int[MOST * MOST_CHANGES];
        private final int[] rights = new int[MOST * MOST_CHANGES];
        private int turnedSize;
        private final int[] turned = new int[Forms.LONGEST];

        Texts(Forms lexicon) {
            this.lexicon = lexicon;
        }

        static boolean isText(int t) {
            return t >= 0 && t < MOST;
        }

        boolean hasRoomFor(int n) {
            return fed + n <= TAPE;
        }

        int append(int n, long bytes) {
            for (int i = 0; i < n; i++) {
                tape[fed] = (int) (bytes >>> 8 * i & 255);
                fed++;
            }
            return fed;
        }

        int readInto(int t) {
            int fault = faultOfTape();
            if (fault == NOTHING) {
                keep(t);
            }
            fed = 0;
            return fault;
        }

        private int faultOfTape() {
            int step = 0;
            int done = 0;
            for (int p = 0; p < fed; p++) {
                if (done == MOST_CHANGES || !canStand(step, tape[p])) {
                    return p;
                }
                step = tape[p] == ';' ? 0 : step + 1;
                done += tape[p] == ';' ? 1 : 0;
            }
            return step == 0 ? NOTHING : fed;
        }

        /** Steps of a change: a > b / l _ r ; where step 3 may be its end already. */
        private static boolean canStand(int step, int sign) {
            return switch (step) {
                case 0 -> isLetter(sign);
                case 1 -> sign == '>';
                case 2 -> isLetter(sign) || sign == '0';
                case 3 -> sign == '/' || sign == ';';
                case 5 -> sign == '_';
                case 4, 6 -> isLetter(sign) || sign == '#' || sign == '*';
                default -> sign == ';';
            };
        }

        private static boolean isLetter(int sign) {
            return sign >= 'a' && sign <= 'z';
        }

        private static int signOf(int letter) {
            if (isLetter(letter)) {
                return letter - 'a';
            }
            return letter == '#' ? END : letter == '*' ? ANYTHING : NO_SIGN;
        }

        private void keep(int t) {
            int done = 0;
            int p = 0;
            while (p + SHORT_CHANGE <= fed && done < MOST_CHANGES) {
                boolean hasContext = tape[p + 3] == '/' && p + LONG_CHANGE <= fed;
                int place = t * MOST_CHANGES + done;
                froms[place] = signOf(tape[p]);
                tos[place] = signOf(tape[p + 2]);
                lefts[place] = hasContext ? signOf(tape[p + 4]) : ANYTHING;
                rights[place] = hasContext ? signOf(tape[p + 6]) : ANYTHING;
                p += hasContext ? LONG_CHANGE : SHORT_CHANGE;
                done++;
            }
            sizes[t] = done;
        }

        int sizeOf(int t) {
            return sizes[t];
        }

        /** Does a text's changes to a form, for turnedSound; answers how many sounds are left. */
        int turn(int form, int t) {
            turnedSize = lexicon.lengthOf(form);
            for (int i = 0; i < turnedSize; i++) {
                turned[i] = lexicon.soundOf(form, i);
            }
            for (int c = 0; c < sizes[t]; c++) {
                change(t * MOST_CHANGES + c);
            }
            return turnedSize;
        }

        private void change(int place) {
            int kept = 0;
            // The sound ahead is held as it was, for its place may be written anew already.
            int ahead = END;
            for (int i = 0; i < turnedSize; i++) {
                int sign = turned[i];
                int behind = i + 1 < turnedSize ? turned[i + 1] : END;
                boolean fits = sign == froms[place] && allows(lefts[place], ahead) && allows(rights[place], behind);
                int becoming = fits ? tos[place] : sign;
                if (becoming != NO_SIGN) {
                    turned[kept] = becoming;
                    kept++;
                }
                ahead = sign;
            }
            turnedSize = kept;
        }

        private static boolean allows(int context, int sign) {
            return context == ANYTHING || context == sign;
        }

        int turnedSound(int i) {
            return turned[i];
        }

        /** The form that is like what a form becomes; NOTHING if there is none, or it becomes none. */
        int turnedForm(int form, int t) {
            int size = turn(form, t);
            return lexicon.find(turned, size);
        }
    }

    /** The line between two forms with the least lies. */
    private static final class Border {
        private static final int[] ACROSS = {1, 0, 1, 1, 2, 1, 2, 1};
        private static final int[] UP = {0, 1, 1, -1, 1, 2, -1, -2};
        private static final int LEAST_LIMIT = -200;

        private final Land land;
        private final Answers ledger;
        private int saysOne;
        private int saysTwo;
        private int lies;
        private int direction;
        private int limit;
        private int side;

        Border(Land land, Answers ledger) {
            this.land = land;
            this.ledger = ledger;
        }

        int partOf(int what) {
            return switch (what) {
                case 0 -> lies;
                case 1 -> direction;
                case 2 -> limit;
                default -> side;
            };
        }

        void draw(int thing, int one, int two, int day) {
            listen(thing, one, two, day);
            lies = ABOVE_ALL;
            for (int d = 0; d < ACROSS.length; d++) {
                // Sides change only just above a village: the least limit of each such stretch is enough.
                weigh(d, LEAST_LIMIT);
                for (int v = 0; v < land.size(); v++) {
                    weigh(d, heightOf(v, d) + 1);
                }
            }
        }

        private void listen(int thing, int one, int two, int day) {
            saysOne = 0;
            saysTwo = 0;
            for (int v = 0; v < land.size(); v++) {
                int said = ledger.saidBy(v, thing, day);
                saysOne |= said == one ? 1 << v : 0;
                saysTwo |= said == two ? 1 << v : 0;
            }
        }

        private int heightOf(int v, int d) {
            return ACROSS[d] * land.xOf(v) + UP[d] * land.yOf(v);
        }

        private void weigh(int d, int t) {
            int below = 0;
            for (int v = 0; v < land.size(); v++) {
                below |= heightOf(v, d) < t ? 1 << v : 0;
            }
            offer(land.folkOf(below & saysTwo | ~below & saysOne), d, t, 0);
            offer(land.folkOf(below & saysOne | ~below & saysTwo), d, t, 1);
        }

        private void offer(int offered, int d, int t, int s) {
            // Directions and sides come in their order, limits do not.
            boolean isLower = offered == lies && d == direction && t < limit;
            if (offered < lies || isLower) {
                lies = offered;
                direction = d;
                limit = t;
                side = s;
            }
        }
    }

    /** Distances of villages, and the best way to part them. */
    private static final class Dialects {
        static final int MOST = 4;
        static final int MOST_VILLAGES = 10;
        private static final int PRICE = 5;
        private static final int TOO_DEAR = 100;

        private final Land land;
        private final Forms lexicon;
        private final Answers ledger;
        private final int[] said = new int[Land.MOST * THINGS];
        private final int[] distances = new int[MOST_VILLAGES * MOST_VILLAGES];
        /** By village and dialect: the sum of its distances to those ahead of it that are placed there. */
        private final int[] costs = new int[MOST_VILLAGES * MOST];
        private final int[] row = new int[MOST_VILLAGES];
        private final int[] bestRow = new int[MOST_VILLAGES];
        private int bestSum;
        private int villages;

        Dialects(Land land, Forms lexicon, Answers ledger) {
            this.land = land;
            this.lexicon = lexicon;
            this.ledger = ledger;
        }

        int between(int one, int two, int day) {
            listenTo(one, day);
            listenTo(two, day);
            return apart(one, two);
        }

        private void listenTo(int v, int day) {
            for (int thing = 0; thing < THINGS; thing++) {
                said[v * THINGS + thing] = ledger.saidBy(v, thing, day);
            }
        }

        private int apart(int one, int two) {
            int sum = 0;
            for (int thing = 0; thing < THINGS; thing++) {
                int first = said[one * THINGS + thing];
                int second = said[two * THINGS + thing];
                if (first != NOTHING && second != NOTHING) {
                    sum += lexicon.apart(first, second);
                }
            }
            return sum;
        }

        /** Measures all pairs, and clears the costs: no village is placed. */
        private void begin(int day) {
            Arrays.fill(costs, 0);
            villages = Math.min(land.size(), MOST_VILLAGES);
            for (int v = 0; v < villages; v++) {
                listenTo(v, day);
                for (int u = 0; u < v; u++) {
                    distances[v * MOST_VILLAGES + u] = apart(u, v);
                }
            }
        }

        /** Places village v in dialect d (sign 1) or lifts it (sign -1), for those behind it. */
        private void place(int v, int d, int sign) {
            for (int u = v + 1; u < villages; u++) {
                costs[u * MOST + d] += sign * distances[u * MOST_VILLAGES + v];
            }
        }

        private int costOf(int v, int d, int used) {
            return costs[v * MOST + d] + (d == used ? PRICE : 0);
        }

        void search(int k, int day) {
            begin(day);
            bestSum = ABOVE_ALL;
            part(0, 0, 0, k);
        }

        private void part(int v, int used, int sum, int k) {
            // Rows come in their order, so a later one must be better, not just as good.
            if (sum + leastRest(v, used, k) >= bestSum) {
                return;
            }
            if (v >= villages) {
                bestSum = sum;
                System.arraycopy(row, 0, bestRow, 0, row.length);
                return;
            }
            for (int d = 0; d <= used && d < k; d++) {
                int more = sum + costOf(v, d, used);
                if (more < bestSum) {
                    row[v] = d;
                    place(v, d, 1);
                    part(v + 1, Math.max(used, d + 1), more, k);
                    place(v, d, -1);
                }
            }
        }

        /** What the villages from v on add at least; nothing is sure while a dialect may still be opened. */
        private int leastRest(int v, int used, int k) {
            int sum = 0;
            for (int u = v; u < villages && used == k; u++) {
                int least = ABOVE_ALL;
                for (int d = 0; d < k; d++) {
                    least = Math.min(least, costs[u * MOST + d]);
                }
                sum += least;
            }
            return sum;
        }

        int leastSum() {
            return bestSum;
        }

        int dialectOf(int v) {
            return bestRow[v];
        }

        int judge(Sheets sheets, int s, int most, int day) {
            begin(day);
            int used = 0;
            int sum = 0;
            for (int v = 0; v < villages && v < sheets.sizeOf(s); v++) {
                int d = sheets.read(s, v);
                if (d < 0 || d > used || d >= MOST) {
                    return v;
                }
                sum += costOf(v, d, used);
                place(v, d, 1);
                used = Math.max(used, d + 1);
            }
            if (sheets.sizeOf(s) != land.size()) {
                return sheets.sizeOf(s);
            }
            return sum > most ? TOO_DEAR : NOTHING;
        }
    }

    /** The shortest round over some villages and home. */
    private static final class Tour {
        static final int MOST = 7;
        private static final int WIDTH = MOST + 1;

        private final Land land;
        private int stops;
        /** The stops by their numbers, and home behind them. */
        private final int[] villages = new int[WIDTH];
        private final int[] walks = new int[WIDTH * WIDTH];
        /** By the set of stops that have been seen and the last of them: the least sum of the rest, to home. */
        private final int[] rests = new int[(1 << MOST) * MOST];
        private final int[] order = new int[MOST];
        private int least;

        Tour(Land land) {
            this.land = land;
        }

        int sum() {
            return least;
        }

        int stopAt(int i) {
            return order[i];
        }

        void plan(int home, int set) {
            collect(home, set);
            int full = (1 << stops) - 1;
            for (int seen = full; seen > 0; seen--) {
                for (int at = 0; at < stops; at++) {
                    if ((seen & 1 << at) != 0) {
                        rests[seen * MOST + at] = restOf(seen, at);
                    }
                }
            }
            least = restOf(0, stops);
            follow();
        }

        private void collect(int home, int set) {
            stops = 0;
            for (int v = 0; v < land.size() && stops < MOST; v++) {
                if ((set & 1 << v) != 0) {
                    villages[stops] = v;
                    stops++;
                }
            }
            villages[stops] = home;
            for (int from = 0; from <= stops; from++) {
                land.walkFrom(1 << villages[from]);
                for (int to = 0; to <= stops; to++) {
                    walks[from * WIDTH + to] = land.walkTo(villages[to]);
                }
            }
        }

        private int restOf(int seen, int at) {
            int then = nextStop(seen, at);
            return then == NOTHING ? walks[at * WIDTH + stops] : sumBy(seen, at, then);
        }

        private int sumBy(int seen, int at, int then) {
            return walks[at * WIDTH + then] + rests[(seen | 1 << then) * MOST + then];
        }

        /** The stop with the least sum of the rest; the first of several makes the first row. */
        private int nextStop(int seen, int at) {
            int best = NOTHING;
            for (int then = 0; then < stops; then++) {
                boolean isOpen = (seen & 1 << then) == 0;
                if (isOpen && (best == NOTHING || sumBy(seen, at, then) < sumBy(seen, at, best))) {
                    best = then;
                }
            }
            return best;
        }

        private void follow() {
            int seen = 0;
            int at = stops;
            for (int i = 0; i < stops; i++) {
                at = nextStop(seen, at);
                if (at == NOTHING) {
                    return;
                }
                seen |= 1 << at;
                order[i] = villages[at];
            }
        }
    }

    /** How a form spreads from year to year. */
    private static final class Spread {
        private static final int MOST_SEEDS = 3;

        private final Land land;
        private final int[] neighbours = new int[Land.MOST];
        private final int[] folkAround = new int[Land.MOST];

        Spread(Land land) {
            this.land = land;
        }

        /** Looks at the roads once, ahead of any number of years. */
        void survey() {
            for (int v = 0; v < land.size(); v++) {
                neighbours[v] = land.neighboursOf(v);
                folkAround[v] = land.folkOf(neighbours[v]);
            }
        }

        int after(int set, int years) {
            int has = set;
            for (int year = 0; year < years; year++) {
                int more = has | takers(has);
                // Where a year changes nothing, no later one does.
                if (more == has) {
                    return has;
                }
                has = more;
            }
            return has;
        }

        private int takers(int has) {
            int takers = 0;
            for (int v = 0; v < land.size(); v++) {
                int near = neighbours[v] & has;
                if ((has & 1 << v) == 0 && near != 0 && 2 * land.folkOf(near) >= folkAround[v]) {
                    takers |= 1 << v;
                }
            }
            return takers;
        }

        int fewest(int years) {
            survey();
            int all = land.all();
            for (int size = 0; size <= MOST_SEEDS; size++) {
                for (int set = 0; set <= all; set++) {
                    if (Integer.bitCount(set) == size && after(set, years) == all) {
                        return set;
                    }
                }
            }
            return NOTHING;
        }
    }

    /** Rows of numbers of 8, 16 or 32 bits; a sheet of 0 bits is missing. */
    private static final class Sheets {
        static final int LONGEST = 20;
        private static final int MOST = 4;

        private final int[] widths = new int[MOST];
        private final int[] sizes = new int[MOST];
        private final int[] numbers = new int[MOST * LONGEST];

        static boolean isSheet(int s) {
            return s >= 0 && s < MOST;
        }

        static boolean isWidth(int bits) {
            return bits == 0 || bits == 8 || bits == 16 || bits == 32;
        }

        boolean isMissing(int s) {
            return widths[s] == 0;
        }

        int widthOf(int s) {
            return widths[s];
        }

        int sizeOf(int s) {
            return sizes[s];
        }

        int lay(int s, int bits, int n) {
            widths[s] = bits;
            sizes[s] = bits == 0 ? 0 : n;
            Arrays.fill(numbers, s * LONGEST, (s + 1) * LONGEST, 0);
            return sizes[s];
        }

        void write(int s, int i, int v) {
            numbers[s * LONGEST + i] = switch (widths[s]) {
                case 8 -> (byte) v;
                case 16 -> (short) v;
                default -> v;
            };
        }

        int read(int s, int i) {
            return numbers[s * LONGEST + i];
        }

        boolean hasPart(int s, int from, int n) {
            return from >= 0 && n >= 0 && n <= sizes[s] && from <= sizes[s] - n;
        }

        void move(int s, int from, int t, int to, int n) {
            System.arraycopy(numbers, s * LONGEST + from, numbers, t * LONGEST + to, n);
        }
    }

    /** The latest acts that can be undone, each with what it was about and what stood there before. */
    private static final class History {
        static final int VILLAGE = 0;
        static final int ROAD = 1;
        static final int ASKED = 2;
        static final int FORM = 3;
        static final int ANSWER = 4;
        static final int TAKE = 5;
        static final int DAY = 6;
        private static final int MOST = 6;

        private int size;
        private final int[] kinds = new int[MOST];
        private final int[] which = new int[MOST];
        private final int[] befores = new int[MOST];

        int size() {
            return size;
        }

        void note(int kind, int about, int before) {
            if (size == MOST) {
                forgetOldest();
            }
            kinds[size] = kind;
            which[size] = about;
            befores[size] = before;
            size++;
        }

        private void forgetOldest() {
            size--;
            System.arraycopy(kinds, 1, kinds, 0, size);
            System.arraycopy(which, 1, which, 0, size);
            System.arraycopy(befores, 1, befores, 0, size);
        }

        int latestKind() {
            return kinds[size - 1];
        }

        int latestWhich() {
            return which[size - 1];
        }

        int latestBefore() {
            return befores[size - 1];
        }

        int dropLatest() {
            size--;
            return size;
        }
    }
}
