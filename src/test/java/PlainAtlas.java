import java.util.ArrayList;
import java.util.Arrays;
import java.util.List;
import java.util.TreeMap;

/**
 * The document in its plainest form, written apart from DialectAtlas: lists, whole copies of the state for
 * undo, and every border, parting, order and set gone through one by one. ModelTest holds the two together.
 */
final class PlainAtlas {
    static final int BEYOND = -100001, MISSING = -100002, SIZE = -100003, KIND = -100004, FULL = -100005,
            NONE = -100006, TAKEN = -100007, CUT = -100008;

    record Village(int x, int y, int folk) { }
    record Person(int village, int kind, int trust) { }
    record Answer(int who, int thing, int form, int told, int taken) { }
    record Change(char from, char to, char left, char right) { }
    record State(List<Village> villages, TreeMap<Integer, Integer> roads, List<Person> people,
            List<String> forms, List<Answer> answers, int today) {
        State copy() {
            return new State(new ArrayList<>(villages), new TreeMap<>(roads), new ArrayList<>(people),
                    new ArrayList<>(forms), new ArrayList<>(answers), today);
        }

        State on(int day) {
            return new State(villages, roads, people, forms, answers, day);
        }
    }

    private State now = new State(new ArrayList<>(), new TreeMap<>(), new ArrayList<>(), new ArrayList<>(),
            new ArrayList<>(), 0);
    private final List<State> past = new ArrayList<>();
    private String tape = "";
    private final List<List<Change>> texts = new ArrayList<>(List.of(List.of(), List.of(), List.of(), List.of()));
    private final int[] bits = new int[4];
    private final int[][] sheets = new int[4][];
    private int findings;

    private int told(int answer) {
        if (answer < -99999) {
            findings++;
        }
        return answer;
    }

    private void remember() {
        past.add(now);
        now = now.copy();
        if (past.size() > 6) {
            past.remove(0);
        }
    }

    private static boolean in(int value, int from, int to) {
        return value >= from && value <= to;
    }

    private boolean noVillage(int v) {
        return !in(v, 0, now.villages.size() - 1);
    }

    private boolean noForm(int f) {
        return !in(f, 0, now.forms.size() - 1);
    }

    private static boolean noThing(int t) {
        return !in(t, 0, 5);
    }

    int village(int place, int folk) {
        if (!in(place, 0, 9999) || !in(folk, 1, 999)) return told(BEYOND);
        if (now.villages.size() == 12) return told(FULL);
        remember();
        now.villages.add(new Village(place / 100, place % 100, folk));
        return now.villages.size() - 1;
    }

    private static int key(int one, int two) {
        return Math.min(one, two) * 100 + Math.max(one, two);
    }

    private int roadBetween(int one, int two) {
        return now.roads.getOrDefault(key(one, two), 0);
    }

    int road(int one, int two, int length) {
        if (noVillage(one) || noVillage(two) || !in(length, 0, 99)) return told(BEYOND);
        if (one == two) return told(SIZE);
        int was = roadBetween(one, two);
        remember();
        if (length == 0) now.roads.remove(key(one, two));
        else now.roads.put(key(one, two), length);
        return was;
    }

    /** All walks, Long.MAX_VALUE / 4 where they are cut. */
    private long[][] walks() {
        int n = now.villages.size();
        long[][] w = new long[n][n];
        for (int a = 0; a < n; a++)
            for (int b = 0; b < n; b++)
                w[a][b] = a == b ? 0 : roadBetween(a, b) > 0 ? roadBetween(a, b) : Long.MAX_VALUE / 4;
        for (int m = 0; m < n; m++)
            for (int a = 0; a < n; a++)
                for (int b = 0; b < n; b++)
                    w[a][b] = Math.min(w[a][b], w[a][m] + w[m][b]);
        return w;
    }

    private static boolean cut(long walk) {
        return walk >= Long.MAX_VALUE / 4;
    }

    int walk(int one, int two) {
        if (noVillage(one) || noVillage(two)) return told(BEYOND);
        long w = walks()[one][two];
        return cut(w) ? told(CUT) : (int) w;
    }

    int day(int day) {
        if (!in(day, now.today, 999)) return told(BEYOND);
        int was = now.today;
        remember();
        now = now.on(day);
        return was;
    }

    int asked(int village, int kind, int trust) {
        if (noVillage(village) || !in(kind, 0, 3) || !in(trust, 1, 9)) return told(BEYOND);
        if (now.people.size() == 20) return told(FULL);
        remember();
        now.people.add(new Person(village, kind, trust));
        return now.people.size() - 1;
    }

    private static int weightOf(Person p) {
        int elder = p.trust * 2;
        if (p.kind == 0) return p.trust;
        if (p.kind == 1) return elder;
        if (p.kind == 2) return p.trust / 2 + 1;
        return elder * 2 - 1;
    }

    int as(int who, int kind) {
        if (!in(who, 0, now.people.size() - 1) || !in(kind, 0, 3)) return told(BEYOND);
        Person p = now.people.get(who);
        boolean isOne = kind == 0 || kind == p.kind || kind == 1 && p.kind == 3;
        return isOne ? weightOf(p) : told(KIND);
    }

    int form(int size, long sounds) {
        if (!in(size, 1, 8)) return told(BEYOND);
        String row = "";
        for (int i = 0; i < size; i++) {
            int sound = (int) ((sounds >> 8 * i) & 0xff);
            if (sound > 25) return told(BEYOND);
            row += (char) ('a' + sound);
        }
        if (!now.forms.contains(row) && now.forms.size() == 30) return told(FULL);
        remember();
        if (!now.forms.contains(row)) now.forms.add(row);
        return now.forms.indexOf(row);
    }

    int sound(int form, int i) {
        if (noForm(form)) return told(BEYOND);
        String row = now.forms.get(form);
        if (!in(i, -1, row.length() - 1)) return told(BEYOND);
        return i == -1 ? row.length() : row.charAt(i) - 'a';
    }

    private static int far(String one, String two) {
        int[][] c = new int[one.length() + 1][two.length() + 1];
        for (int i = 0; i <= one.length(); i++)
            for (int j = 0; j <= two.length(); j++) {
                if (i == 0 || j == 0) {
                    c[i][j] = 2 * (i + j);
                    continue;
                }
                int a = one.charAt(i - 1) - 'a';
                int b = two.charAt(j - 1) - 'a';
                int change = a == b ? 0 : a / 5 == b / 5 ? 1 : 3;
                c[i][j] = Math.min(c[i - 1][j - 1] + change, Math.min(c[i - 1][j], c[i][j - 1]) + 2);
            }
        return c[one.length()][two.length()];
    }

    int far(int one, int two) {
        if (noForm(one) || noForm(two)) return told(BEYOND);
        return far(now.forms.get(one), now.forms.get(two));
    }

    int answer(int who, int thing, int form) {
        if (!in(who, 0, now.people.size() - 1) || noThing(thing) || noForm(form)) return told(BEYOND);
        if (now.answers.size() == 60) return told(FULL);
        remember();
        now.answers.add(new Answer(who, thing, form, now.today, -1));
        return now.answers.size() - 1;
    }

    int take(int answer) {
        if (!in(answer, 0, now.answers.size() - 1)) return told(BEYOND);
        Answer a = now.answers.get(answer);
        if (a.taken >= 0) return told(TAKEN);
        remember();
        now.answers.set(answer, new Answer(a.who, a.thing, a.form, a.told, now.today));
        return 1;
    }

    int answerIs(int answer, int what) {
        if (!in(answer, 0, now.answers.size() - 1) || !in(what, 0, 4)) return told(BEYOND);
        Answer a = now.answers.get(answer);
        return new int[] {a.who, a.thing, a.form, a.told, a.taken}[what];
    }

    private int weightIn(int village, int thing, int form, int day) {
        int sum = 0;
        for (int p = 0; p < now.people.size(); p++) {
            Answer last = null;
            for (Answer a : now.answers)
                if (a.who == p && a.thing == thing && a.told <= day && !(a.taken >= 0 && a.taken <= day)) last = a;
            if (last != null && last.form == form && now.people.get(p).village == village)
                sum += weightOf(now.people.get(p));
        }
        return sum;
    }

    /** -1: nothing. */
    private int said(int village, int thing, int day) {
        int best = -1;
        for (int f = 0; f < now.forms.size(); f++) {
            int w = weightIn(village, thing, f, day);
            if (w > 0 && (best < 0 || w > weightIn(village, thing, best, day))) best = f;
        }
        return best;
    }

    private int[] saidOf(int thing) {
        int[] row = new int[now.villages.size()];
        for (int v = 0; v < row.length; v++) row[v] = said(v, thing, now.today);
        return row;
    }

    int says(int village, int thing, int day) {
        if (noVillage(village) || noThing(thing) || !in(day, 0, 999)) return told(BEYOND);
        int f = said(village, thing, day);
        return f < 0 ? told(NONE) : f;
    }

    int weight(int village, int thing, int form, int day) {
        if (noVillage(village) || noThing(thing) || noForm(form) || !in(day, 0, 999)) return told(BEYOND);
        return weightIn(village, thing, form, day);
    }

    int feed(int n, long bytes) {
        if (!in(n, 1, 8)) return told(BEYOND);
        if (tape.length() + n > 80) return told(FULL);
        for (int i = 0; i < n; i++) tape += (char) ((bytes >> 8 * i) & 0xff);
        return tape.length();
    }

    int text(int t) {
        if (!in(t, 0, 3)) return told(BEYOND);
        String whole = tape;
        tape = "";
        List<Change> read = new ArrayList<>();
        int p = 0;
        while (p < whole.length()) {
            if (read.size() == 12) return p;
            String shape = p + 3 < whole.length() && whole.charAt(p + 3) == '/' ? "l>z/c_c;" : "l>z;";
            for (int i = 0; i < shape.length(); i++) {
                if (p + i == whole.length()) return p + i;
                char c = whole.charAt(p + i);
                boolean letter = "abcdefghijklmnopqrstuvwxyz".indexOf(c) >= 0;
                boolean fits = switch (shape.charAt(i)) {
                    case 'l' -> letter;
                    case 'z' -> letter || c == '0';
                    case 'c' -> letter || c == '#' || c == '*';
                    default -> c == shape.charAt(i);
                };
                if (!fits) return p + i;
            }
            boolean wide = shape.length() == 8;
            read.add(new Change(whole.charAt(p), whole.charAt(p + 2), wide ? whole.charAt(p + 4) : '*',
                    wide ? whole.charAt(p + 6) : '*'));
            p += shape.length();
        }
        texts.set(t, read);
        return -1;
    }

    int changes(int t) {
        return in(t, 0, 3) ? texts.get(t).size() : told(BEYOND);
    }

    private String become(int form, int t) {
        String row = now.forms.get(form);
        for (Change c : texts.get(t)) {
            String framed = "#" + row + "#";
            String made = "";
            for (int i = 1; i <= row.length(); i++) {
                boolean left = c.left == '*' || framed.charAt(i - 1) == c.left;
                boolean right = c.right == '*' || framed.charAt(i + 1) == c.right;
                if (framed.charAt(i) == c.from && left && right) made += c.to == '0' ? "" : "" + c.to;
                else made += framed.charAt(i);
            }
            row = made;
        }
        return row;
    }

    int becomes(int form, int t, int i) {
        if (noForm(form) || !in(t, 0, 3)) return told(BEYOND);
        String row = become(form, t);
        if (!in(i, -1, row.length() - 1)) return told(BEYOND);
        return i == -1 ? row.length() : row.charAt(i) - 'a';
    }

    int explains(int village, int thing, int old) {
        if (noVillage(village) || noThing(thing) || noForm(old)) return told(BEYOND);
        int f = said(village, thing, now.today);
        if (f < 0) return told(MISSING);
        for (int t = 0; t < 4; t++) if (become(old, t).equals(now.forms.get(f))) return t;
        return told(NONE);
    }

    int covers(int t, int thing, int old) {
        if (!in(t, 0, 3) || noThing(thing) || noForm(old)) return told(BEYOND);
        int sum = 0;
        for (int f : saidOf(thing)) if (f >= 0 && now.forms.get(f).equals(become(old, t))) sum++;
        return sum;
    }

    int border(int thing, int one, int two, int what) {
        if (noThing(thing) || noForm(one) || noForm(two) || !in(what, 0, 3)) return told(BEYOND);
        if (one == two) return told(SIZE);
        int[][] directions = {{1, 0}, {0, 1}, {1, 1}, {1, -1}, {2, 1}, {1, 2}, {2, -1}, {1, -2}};
        int[] said = saidOf(thing);
        int[] best = null;
        for (int d = 0; d < 8; d++)
            for (int t = -200; t <= 300; t++)
                for (int side = 0; side < 2; side++) {
                    int lies = 0;
                    for (int v = 0; v < said.length; v++) {
                        Village at = now.villages.get(v);
                        int on = directions[d][0] * at.x + directions[d][1] * at.y < t ? 0 : 1;
                        int other = on == side ? two : one;
                        if (said[v] == other) lies += at.folk;
                    }
                    if (best == null || lies < best[0]) best = new int[] {lies, d, t, side};
                }
        return best[what];
    }

    private int between(int one, int two, int day) {
        int sum = 0;
        for (int thing = 0; thing < 6; thing++) {
            int a = said(one, thing, day);
            int b = said(two, thing, day);
            if (a >= 0 && b >= 0) sum += far(now.forms.get(a), now.forms.get(b));
        }
        return sum;
    }

    int distance(int one, int two, int day) {
        if (noVillage(one) || noVillage(two) || !in(day, 0, 999)) return told(BEYOND);
        return between(one, two, day);
    }

    private int[][] allDistances() {
        int n = now.villages.size();
        int[][] d = new int[n][n];
        for (int a = 0; a < n; a++) for (int b = 0; b < a; b++) d[a][b] = d[b][a] = between(a, b, now.today);
        return d;
    }

    private static int sumOf(int[] row, int n, int[][] d) {
        int groups = 0;
        int sum = 0;
        for (int a = 0; a < n; a++) {
            groups = Math.max(groups, row[a] + 1);
            for (int b = 0; b < a; b++) if (row[a] == row[b]) sum += d[a][b];
        }
        return sum + 5 * groups;
    }

    /** Goes through all rows of numbers below k, in their order, and leaves out those that are no parting. */
    int dialects(int k, int what) {
        int n = now.villages.size();
        if (!in(k, 1, 4) || !in(what, -1, n - 1)) return told(BEYOND);
        if (n == 0) return told(NONE);
        if (n > 10) return told(SIZE);
        int[][] d = allDistances();
        int[] best = null;
        int[] row = new int[n];
        int rows = (int) Math.round(Math.pow(k, n - 1));
        for (int number = 0; number < rows; number++) {
            int rest = number;
            for (int v = n - 1; v > 0; v--) {
                row[v] = rest % k;
                rest /= k;
            }
            boolean stands = true;
            int used = 0;
            for (int v = 0; v < n; v++) {
                stands &= row[v] <= used;
                used = Math.max(used, row[v] + 1);
            }
            if (stands && (best == null || sumOf(row, n, d) < sumOf(best, n, d))) best = row.clone();
        }
        return what == -1 ? sumOf(best, n, d) : best[what];
    }

    int proves(int s, int v) {
        if (!in(s, 0, 3)) return told(BEYOND);
        if (sheets[s] == null) return told(MISSING);
        int n = now.villages.size();
        if (n > 10) return told(SIZE);
        int used = 0;
        for (int i = 0; i < n && i < sheets[s].length; i++) {
            if (!in(sheets[s][i], 0, Math.min(used, 3))) return i;
            used = Math.max(used, sheets[s][i] + 1);
        }
        if (sheets[s].length != n) return sheets[s].length;
        return sumOf(sheets[s], n, allDistances()) > v ? 100 : -1;
    }

    int next(int thing) {
        if (noThing(thing)) return told(BEYOND);
        int[] said = saidOf(thing);
        long[][] walks = walks();
        int best = -1;
        long bestFar = 0;
        for (int v = 0; v < said.length; v++) {
            if (said[v] >= 0) continue;
            long far = Long.MAX_VALUE / 4;
            for (int u = 0; u < said.length; u++) if (said[u] >= 0) far = Math.min(far, walks[v][u]);
            int folk = now.villages.get(v).folk;
            if (best < 0 || far > bestFar || far == bestFar && folk > now.villages.get(best).folk) {
                best = v;
                bestFar = far;
            }
        }
        return best < 0 ? told(NONE) : best;
    }

    int foretold(int village, int thing) {
        if (noVillage(village) || noThing(thing)) return told(BEYOND);
        int[] said = saidOf(thing);
        long[][] walks = walks();
        TreeMap<Integer, Long> sums = new TreeMap<>();
        for (int v = 0; v < said.length; v++)
            if (v != village && said[v] >= 0 && !cut(walks[v][village]))
                sums.merge(said[v], now.villages.get(v).folk / (1 + walks[v][village]), Long::sum);
        int best = -1;
        for (int f : sums.keySet()) if (best < 0 || sums.get(f) > sums.get(best)) best = f;
        return best < 0 ? told(NONE) : best;
    }

    private long bestRound;
    private List<Integer> bestOrder;

    private void goOn(int home, List<Integer> order, List<Integer> open, long[][] walks) {
        if (open.isEmpty()) {
            long sum = 0;
            int at = home;
            for (int v : order) {
                sum += walks[at][v];
                at = v;
            }
            sum += walks[at][home];
            if (bestOrder == null || sum < bestRound) {
                bestRound = sum;
                bestOrder = new ArrayList<>(order);
            }
        }
        for (int v : open) {
            List<Integer> rest = new ArrayList<>(open);
            rest.remove((Integer) v);
            order.add(v);
            goOn(home, order, rest, walks);
            order.remove(order.size() - 1);
        }
    }

    int round(int home, int set, int what) {
        if (noVillage(home) || set < 0 || set >= 1 << now.villages.size() || (set >> home) % 2 == 1 || what < -1)
            return told(BEYOND);
        List<Integer> stops = new ArrayList<>();
        for (int v = 0; v < 12; v++) if ((set >> v) % 2 == 1) stops.add(v);
        if (stops.size() > 7) return told(SIZE);
        long[][] walks = walks();
        for (int v : stops) if (cut(walks[home][v])) return told(CUT);
        if (what >= stops.size()) return told(NONE);
        bestOrder = null;
        goOn(home, new ArrayList<>(), stops, walks);
        return what == -1 ? (int) bestRound : bestOrder.get(what);
    }

    private int spreading(int set, int years) {
        for (int year = 0; year < years; year++) {
            int then = set;
            for (int v = 0; v < now.villages.size(); v++) {
                int with = 0;
                int without = 0;
                boolean one = false;
                for (int u = 0; u < now.villages.size(); u++) {
                    if (u == v || roadBetween(u, v) == 0) continue;
                    if ((set >> u) % 2 == 1) {
                        with += now.villages.get(u).folk;
                        one = true;
                    } else {
                        without += now.villages.get(u).folk;
                    }
                }
                if (one && with >= without) then |= 1 << v;
            }
            set = then;
        }
        return set;
    }

    int spread(int set, int n) {
        if (set < 0 || set >= 1 << now.villages.size() || !in(n, 0, 30)) return told(BEYOND);
        return spreading(set, n);
    }

    int seeds(int n) {
        if (!in(n, 0, 30)) return told(BEYOND);
        int all = (1 << now.villages.size()) - 1;
        for (int size = 0; size <= 3; size++)
            for (int set = 0; set <= all; set++)
                if (Integer.bitCount(set) == size && spreading(set, n) == all) return set;
        return told(NONE);
    }

    int sheet(int s, int bits, int n) {
        if (!in(s, 0, 3) || bits != 0 && bits != 8 && bits != 16 && bits != 32) return told(BEYOND);
        if (n < 0) return told(SIZE);
        if (n > 20) return told(BEYOND);
        this.bits[s] = bits;
        sheets[s] = bits == 0 ? null : new int[n];
        return bits == 0 ? 0 : n;
    }

    int put(int s, int i, int v) {
        if (!in(s, 0, 3)) return told(BEYOND);
        if (sheets[s] == null) return told(MISSING);
        if (!in(i, 0, sheets[s].length - 1)) return told(BEYOND);
        sheets[s][i] = bits[s] == 8 ? v & 0xff : bits[s] == 16 ? v & 0xffff : v;
        return 0;
    }

    int copy(int s, int from, int t, int to, int n) {
        if (!in(s, 0, 3) || !in(t, 0, 3)) return told(BEYOND);
        if (sheets[s] == null || sheets[t] == null) return told(MISSING);
        if (bits[s] != bits[t]) return told(KIND);
        if (from < 0 || to < 0 || n < 0) return told(BEYOND);
        if ((long) from + n > sheets[s].length || (long) to + n > sheets[t].length) return told(BEYOND);
        int[] part = Arrays.copyOfRange(sheets[s], from, from + n);
        for (int i = 0; i < n; i++) sheets[t][to + i] = part[i];
        return n;
    }

    int undo() {
        if (past.isEmpty()) return told(NONE);
        now = past.remove(past.size() - 1);
        return past.size();
    }

    int count(int what) {
        if (!in(what, 0, 8)) return told(BEYOND);
        return switch (what) {
            case 0 -> now.villages.size();
            case 1 -> now.roads.size();
            case 2 -> now.people.size();
            case 3 -> now.forms.size();
            case 4 -> now.answers.size();
            case 5 -> (int) now.answers.stream().filter(a -> a.taken < 0).count();
            case 6 -> now.today;
            case 7 -> now.villages.stream().mapToInt(Village::folk).sum();
            default -> findings;
        };
    }
}
