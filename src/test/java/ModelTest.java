import java.lang.reflect.InvocationTargetException;
import java.lang.reflect.Method;
import java.lang.reflect.Modifier;
import java.util.ArrayDeque;
import java.util.ArrayList;
import java.util.Arrays;
import java.util.Comparator;
import java.util.List;
import java.util.Random;

/** Long runs of drawn calls, right and wrong ones, on DialectAtlas and PlainAtlas: both must answer the same. */
public final class ModelTest {
    private static final int CALLS = 512;
    private static final int[] ODD = {-1, -2, 0, 1, 7, 8, 9, 11, 12, 20, 26, 30, 31, 32, 33, 60, 64, 99, 100, 101,
        255, 256, 999, 1000, 4095, 4096, 9999, 10000, 65536, -100, Integer.MAX_VALUE, Integer.MIN_VALUE,
        Integer.MAX_VALUE - 1, Integer.MIN_VALUE + 1};
    private static final String[] BUILDING = {"village", "road", "road", "asked", "form", "answer", "answer", "answer",
        "feed", "sheet", "put"};

    private record Call(String name, Object[] args) {
        @Override
        public String toString() {
            String list = Arrays.toString(args);
            return name + "(" + list.substring(1, list.length() - 1) + ")";
        }
    }

    private final Random random;
    private final PlainAtlas plain = new PlainAtlas();
    private final DialectAtlas atlas = new DialectAtlas();
    private final ArrayDeque<Call> pending = new ArrayDeque<>();
    private final List<String> done = new ArrayList<>();
    private final int odds;
    private final int villages;
    private final int letters;
    /** How many forms and things are in use, and the call that is drawn more often in this run. */
    private final int common;
    private final int things;
    private final String often;

    private ModelTest(long seed) {
        random = new Random(seed);
        odds = new int[] {0, 2, 10, 60}[random.nextInt(4)];
        villages = new int[] {3, 5, 7, 9, 12}[random.nextInt(5)];
        letters = new int[] {2, 4, 8, 26}[random.nextInt(4)];
        common = new int[] {2, 3, 5, 30}[random.nextInt(4)];
        things = new int[] {1, 2, 3, 6}[random.nextInt(4)];
        often = new String[] {"answer", "form", "undo", "border", "dialects", "round", "says"}[random.nextInt(7)];
    }

    public static void main(String[] args) throws ReflectiveOperationException {
        int runs = args.length > 0 ? Integer.parseInt(args[0]) : 150;
        long first = args.length > 1 ? Long.parseLong(args[1]) : 1;
        List<Method> methods = new ArrayList<>();
        for (Method m : DialectAtlas.class.getDeclaredMethods()) {
            if (Modifier.isPublic(m.getModifiers())) {
                methods.add(m);
            }
        }
        methods.sort(Comparator.comparing(Method::getName));
        Check check = new Check();
        for (long seed = first; seed < first + runs && check.wrong() == 0; seed++) {
            new ModelTest(seed).run(seed, methods, check);
        }
        check.end();
    }

    private void run(long seed, List<Method> methods, Check check) throws ReflectiveOperationException {
        for (int i = 0; i < CALLS && check.wrong() == 0; i++) {
            Call call = drawn(methods, i);
            done.add(call.toString());
            Class<?>[] types = null;
            for (Method m : methods) {
                if (m.getName().equals(call.name)) {
                    types = m.getParameterTypes();
                }
            }
            Object want = PlainAtlas.class.getDeclaredMethod(call.name, types).invoke(plain, call.args);
            try {
                Object got = DialectAtlas.class.getMethod(call.name, types).invoke(atlas, call.args);
                check.due("seed " + seed + ", call " + i + " " + call, (Integer) want, (Integer) got);
            } catch (InvocationTargetException thrown) {
                check.holds("seed " + seed + ", call " + i + " " + call + " threw " + thrown.getCause() + "; that it ends",
                        false);
            }
        }
        if (check.wrong() > 0) {
            System.out.println(String.join("\n", done));
        }
    }

    private Call drawn(List<Method> methods, int i) {
        if (!pending.isEmpty() && random.nextInt(100) < 80) {
            return pending.poll();
        }
        String name = methods.get(random.nextInt(methods.size())).getName();
        if (i < 120 && random.nextInt(100) < 70 || random.nextInt(100) < 25) {
            name = BUILDING[random.nextInt(BUILDING.length)];
        }
        if (random.nextInt(10) == 0) {
            name = often;
        }
        boolean isDear = name.equals("dialects") || name.equals("proves") || name.equals("seeds");
        if (isDear && plain.count(0) > 8 && random.nextInt(4) > 0) {
            name = "says";
        }
        if (name.equals("village") && plain.count(0) >= villages && random.nextInt(20) > 0) {
            name = "answer";
        }
        return new Call(name, name.equals("feed") ? feeding() : arguments(name));
    }

    private boolean isOdd() {
        return random.nextInt(1000) < odds;
    }

    private int odd() {
        return ODD[random.nextInt(ODD.length)];
    }

    private int number(int from, int to) {
        if (isOdd() || to < from) {
            return random.nextBoolean() ? odd() : random.nextBoolean() ? from - 1 : to + 1;
        }
        return from + random.nextInt(to - from + 1);
    }

    private int villageNumber() {
        return number(0, plain.count(0) - 1);
    }

    private int formNumber() {
        return number(0, Math.min(common, plain.count(3)) - 1);
    }

    private int thing() {
        return number(0, things - 1);
    }

    private int dayNumber() {
        return number(Math.max(0, plain.count(6) - 20), Math.min(999, plain.count(6) + 3));
    }

    private int set() {
        return isOdd() ? odd() : random.nextInt(1 << plain.count(0));
    }

    private Object[] arguments(String name) {
        return switch (name) {
            case "village" -> new Object[] {place(), number(1, random.nextBoolean() ? 9 : 999)};
            case "road" -> new Object[] {villageNumber(), villageNumber(),
                number(random.nextInt(4) == 0 ? 0 : 1, random.nextBoolean() ? 3 : 99)};
            case "walk" -> new Object[] {villageNumber(), villageNumber()};
            case "distance" -> new Object[] {villageNumber(), villageNumber(), dayNumber()};
            case "day" -> new Object[] {isOdd() ? odd() : plain.count(6) + random.nextInt(4)};
            case "asked" -> new Object[] {villageNumber(), number(0, 3), number(1, random.nextBoolean() ? 3 : 9)};
            case "as" -> new Object[] {number(0, plain.count(2) - 1), number(0, 3)};
            case "form" -> row();
            case "sound" -> new Object[] {formNumber(), number(-1, random.nextInt(3) > 0 ? 1 : 8)};
            case "far" -> new Object[] {formNumber(), formNumber()};
            case "answer" -> new Object[] {number(0, plain.count(2) - 1), thing(), formNumber()};
            case "take" -> new Object[] {number(0, plain.count(4) - 1)};
            case "answerIs" -> new Object[] {number(0, plain.count(4) - 1), number(0, 4)};
            case "says" -> new Object[] {villageNumber(), thing(), dayNumber()};
            case "weight" -> new Object[] {villageNumber(), thing(), formNumber(), dayNumber()};
            case "text", "changes" -> new Object[] {number(0, 3)};
            case "becomes" -> new Object[] {formNumber(), number(0, 3), number(-1, random.nextInt(3) > 0 ? 1 : 8)};
            case "explains" -> new Object[] {villageNumber(), thing(), formNumber()};
            case "covers" -> new Object[] {number(0, 3), thing(), formNumber()};
            case "border" -> new Object[] {thing(), formNumber(), formNumber(), number(0, 3)};
            case "dialects" -> new Object[] {number(1, 4), number(-1, plain.count(0) - 1)};
            case "proves" -> new Object[] {number(0, 3), number(0, 120)};
            case "next" -> new Object[] {thing()};
            case "foretold" -> new Object[] {villageNumber(), thing()};
            case "round" -> round();
            case "spread" -> new Object[] {set(), number(0, random.nextBoolean() ? 4 : 30)};
            case "seeds" -> new Object[] {number(0, random.nextBoolean() ? 4 : 30)};
            case "sheet" -> new Object[] {number(0, 3), isOdd() ? odd() : new int[] {0, 8, 16, 32, 8}[random.nextInt(5)],
                random.nextBoolean() ? plain.count(0) : number(0, 20)};
            case "put" -> new Object[] {number(0, 3), number(0, random.nextBoolean() ? 3 : 19),
                random.nextInt(4) == 0 ? odd() : random.nextInt(3)};
            case "copy" -> new Object[] {number(0, 3), number(0, 9), number(0, 3), number(0, 9), number(0, 9)};
            case "count" -> new Object[] {number(0, 8)};
            default -> new Object[0];
        };
    }

    private int place() {
        int side = random.nextInt(3) == 0 ? 99 : 5;
        return isOdd() ? odd() : 100 * random.nextInt(side + 1) + random.nextInt(side + 1);
    }

    /** Mostly a set that can be gone round; with the home in it only as a wrong input. */
    private Object[] round() {
        int home = villageNumber();
        int set = set();
        if (home >= 0 && home < 12 && !isOdd()) {
            set &= ~(1 << home);
        }
        return new Object[] {home, set, number(-1, Math.max(0, Integer.bitCount(set) - 1))};
    }

    private Object[] row() {
        int size = number(1, random.nextInt(4) == 0 ? 8 : 3);
        long sounds = 0;
        for (int i = 0; i < 8; i++) {
            long sound = isOdd() ? random.nextInt(256) : letters == 8 ? 3 * random.nextInt(8) : random.nextInt(letters);
            sounds |= sound << 8 * i;
        }
        if (random.nextInt(8) == 0 && size >= 1 && size < 8) {
            sounds |= -1L << 8 * size;
        }
        return new Object[] {size, sounds};
    }

    private char letter() {
        return (char) ('a' + (letters == 8 ? 3 * random.nextInt(8) : random.nextInt(letters)));
    }

    private char context() {
        int which = random.nextInt(4);
        return which == 0 ? '#' : which == 1 ? '*' : letter();
    }

    /** Draws a whole text, with a fault now and then, and answers its first part; the others are pending. */
    private Object[] feeding() {
        StringBuilder text = new StringBuilder();
        int changes = random.nextInt(6) == 0 ? 9 + random.nextInt(6) : random.nextInt(5);
        for (int c = 0; c < changes; c++) {
            text.append(letter()).append('>').append(random.nextInt(4) == 0 ? '0' : letter());
            if (random.nextInt(changes > 8 ? 8 : 2) == 0) {
                text.append('/').append(context()).append('_').append(context());
            }
            text.append(';');
        }
        if (random.nextInt(5) == 0 && text.length() > 0) {
            text.setCharAt(random.nextInt(text.length()), "a>0/#_*;Z{`1 \u00e9\0".charAt(random.nextInt(15)));
        }
        if (random.nextInt(8) == 0 && text.length() > 0) {
            text.setLength(random.nextInt(text.length()));
        }
        for (int i = 0; i < text.length();) {
            int n = Math.min(1 + random.nextInt(8), text.length() - i);
            long rest = random.nextBoolean() && n < 8 ? -1L << 8 * n : 0;
            pending.add(new Call("feed", new Object[] {n, Given.bytes(text.substring(i, i + n)) | rest}));
            i += n;
        }
        pending.add(new Call("text", new Object[] {number(0, 3)}));
        Call start = pending.poll();
        if (start.name.equals("feed")) {
            return start.args;
        }
        pending.addFirst(start);
        return new Object[] {number(1, 8), random.nextLong()};
    }
}
