import java.io.IOException;
import java.lang.reflect.Array;
import java.lang.reflect.Constructor;
import java.lang.reflect.Field;
import java.lang.reflect.Method;
import java.lang.reflect.Modifier;
import java.nio.file.Files;
import java.nio.file.Path;
import java.util.Arrays;
import java.util.IdentityHashMap;
import java.util.List;
import java.util.Map;
import java.util.Set;
import java.util.TreeSet;
import java.util.regex.Matcher;
import java.util.regex.Pattern;

/** The face of the class, and those rules of LANGUAGE.md that can be seen in its text or by reflection. */
public final class LanguageTest {
    private static final Check CHECK = new Check();
    private static final Path SOURCE = Path.of("src/main/java/DialectAtlas.java");
    private static final long MOST_OBJECTS = 600_000;
    private static final long MOST_PARTS = 7_300_000;
    private static final List<String> FACE = List.of(
            "village(int,int)", "road(int,int,int)", "walk(int,int)", "day(int)", "asked(int,int,int)", "as(int,int)",
            "form(int,long)", "sound(int,int)", "far(int,int)", "answer(int,int,int)", "take(int)", "answerIs(int,int)",
            "says(int,int,int)", "weight(int,int,int,int)", "feed(int,long)", "text(int)", "changes(int)",
            "becomes(int,int,int)", "explains(int,int,int)", "covers(int,int,int)", "border(int,int,int,int)",
            "distance(int,int,int)", "dialects(int,int)", "proves(int,int)", "next(int)", "foretold(int,int)",
            "round(int,int,int)", "spread(int,int)", "seeds(int)", "sheet(int,int,int)", "put(int,int,int)",
            "copy(int,int,int,int,int)", "undo()", "count(int)");

    public static void main(String[] args) throws IOException {
        face();
        names();
        fields();
        words(Files.readString(SOURCE));
        lengths(Files.readAllLines(SOURCE));
        room(Files.readAllLines(SOURCE));
        CHECK.end();
    }

    private static void face() {
        Set<String> found = new TreeSet<>();
        for (Method m : DialectAtlas.class.getDeclaredMethods()) {
            if (!Modifier.isPrivate(m.getModifiers())) {
                StringBuilder text = new StringBuilder();
                for (Class<?> type : m.getParameterTypes()) {
                    text.append(text.length() > 0 ? "," : "").append(type.getSimpleName());
                }
                found.add(m.getName() + "(" + text + ")");
                CHECK.holds("rule 1: " + m + " is as in the document", Modifier.isPublic(m.getModifiers())
                        && !Modifier.isStatic(m.getModifiers()) && m.getReturnType() == int.class);
            }
        }
        CHECK.holds("rule 1: the face is the document's, not " + found, found.equals(new TreeSet<>(FACE)));
        Constructor<?>[] made = DialectAtlas.class.getDeclaredConstructors();
        CHECK.holds("rule 1: one constructor", made.length == 1 && made[0].getParameterCount() == 0
                && Modifier.isPublic(made[0].getModifiers()));
        CHECK.holds("rule 1: final", Modifier.isFinal(DialectAtlas.class.getModifiers()));
        CHECK.holds("rule 11: some twelve classes", DialectAtlas.class.getDeclaredClasses().length <= 12);
        for (Class<?> inside : DialectAtlas.class.getDeclaredClasses()) {
            CHECK.holds("rule 1: " + inside + " is static and not public",
                    Modifier.isStatic(inside.getModifiers()) && !Modifier.isPublic(inside.getModifiers()));
        }
    }

    private static void names() {
        Set<String> open = new TreeSet<>();
        for (String method : FACE) {
            open.add(method.substring(0, method.indexOf('(')));
        }
        for (Method m : DialectAtlas.class.getDeclaredMethods()) {
            CHECK.holds("rule 1: " + m + " has a name of its own",
                    Modifier.isPublic(m.getModifiers()) || !open.contains(m.getName()));
        }
        for (Class<?> inside : DialectAtlas.class.getDeclaredClasses()) {
            for (Method m : inside.getDeclaredMethods()) {
                CHECK.holds("rule 1: " + m + " has a name of its own", !open.contains(m.getName()));
                CHECK.holds("rule 11: parameters of " + m, m.getParameterCount() <= 7);
            }
        }
    }

    private static void fields() {
        fieldsOf(DialectAtlas.class);
        for (Class<?> inside : DialectAtlas.class.getDeclaredClasses()) {
            fieldsOf(inside);
        }
        for (Field f : DialectAtlas.class.getDeclaredFields()) {
            CHECK.holds("rule 1: " + f + " is private", Modifier.isPrivate(f.getModifiers()));
        }
    }

    private static void fieldsOf(Class<?> type) {
        int own = 0;
        for (Field f : type.getDeclaredFields()) {
            boolean isStatic = Modifier.isStatic(f.getModifiers());
            CHECK.holds("rule 5: " + f + " is final", !isStatic || Modifier.isFinal(f.getModifiers()));
            own += isStatic ? 0 : 1;
        }
        CHECK.holds("rule 11: some twenty fields in " + type, own <= 20);
    }

    private static void words(String source) {
        String code = source.replaceAll("(?s)/\\*.*?\\*/", "").replaceAll("//[^\n]*", "");
        for (String word : List.of("throw", "throws", "try", "catch", "synchronized", "assert", "package", "protected",
                "static \\{", "->\\s*\\{", "::", "Exact", "Exception", "double", "float", "Object", "System\\.(?!arraycopy)")) {
            Matcher found = Pattern.compile(word.matches("\\w+") ? "\\b" + word + "\\b" : word).matcher(code);
            CHECK.holds("rules 2 to 7: no " + word, !found.find());
        }
        Matcher imports = Pattern.compile("import ([^;]+);").matcher(code);
        while (imports.find()) {
            CHECK.holds("rule 4: " + imports.group(1), imports.group(1).equals("java.util.Arrays"));
        }
        Matcher library = Pattern.compile("\\b(Arrays|Math|Integer|System)\\.(\\w+)").matcher(code);
        while (library.find()) {
            CHECK.holds("rule 4: " + library.group(), List.of("Arrays.fill", "Math.max", "Math.min", "Integer.bitCount",
                    "System.arraycopy").contains(library.group()));
        }
        CHECK.holds("one file of signs 1 to 127", code.chars().allMatch(c -> c > 0 && c < 128));
    }

    /** Methods stand at one or two levels of four spaces and end with a brace at the same level. */
    private static void lengths(List<String> lines) {
        for (int indent : new int[] {4, 8}) {
            String start = " ".repeat(indent) + "\\S.*\\) \\{";
            int from = -1;
            for (int i = 0; i < lines.size(); i++) {
                if (lines.get(i).matches(start)) {
                    from = i;
                }
                if (from >= 0 && lines.get(i).equals(" ".repeat(indent) + "}")) {
                    CHECK.holds("rule 11: " + lines.get(from).trim() + " is short", i - from < 60);
                    from = -1;
                }
            }
        }
        CHECK.holds("lines are not too long", Arrays.stream(lines.toArray(new String[0])).allMatch(l -> l.length() <= 120));
    }

    /** No call makes an object, and a thousand atlases fill less than the room that all calls of one run have. */
    private static void room(List<String> lines) {
        for (String line : lines) {
            boolean isMade = line.matches(".*\\bnew [A-Za-z]+[\\[(].*");
            CHECK.holds("rule 12: made with the atlas, not by a call: " + line.trim(),
                    !isMade || line.matches("\\s+private final \\w+(\\[\\])? \\w+ = new .*;"));
        }
        Map<Object, Boolean> seen = new IdentityHashMap<>();
        long parts = partsOf(new DialectAtlas(), seen);
        CHECK.holds("objects and arrays of an atlas: " + seen.size(), seen.size() * 1000L <= MOST_OBJECTS);
        CHECK.holds("fields and elements of an atlas: " + parts, parts * 1000L <= MOST_PARTS);
    }

    private static long partsOf(Object whole, Map<Object, Boolean> seen) {
        if (whole == null || seen.put(whole, true) != null) {
            return 0;
        }
        if (whole.getClass().isArray()) {
            return Array.getLength(whole);
        }
        long parts = 0;
        for (Field f : whole.getClass().getDeclaredFields()) {
            if (!Modifier.isStatic(f.getModifiers())) {
                parts += 1 + (f.getType().isPrimitive() ? 0 : partsOf(valueOf(f, whole), seen));
            }
        }
        return parts;
    }

    private static Object valueOf(Field f, Object whole) {
        try {
            f.setAccessible(true);
            return f.get(whole);
        } catch (IllegalAccessException refused) {
            throw new IllegalStateException(refused);
        }
    }
}
