import java.io.IOException;
import java.lang.reflect.Method;
import java.lang.reflect.Modifier;
import java.nio.file.Files;
import java.nio.file.Path;
import java.util.HashMap;
import java.util.Map;
import java.util.Set;
import java.util.TreeSet;
import java.util.regex.Matcher;
import java.util.regex.Pattern;

/** The calls that README.md shows, done in their order on one atlas: each answers what stands behind it. */
public final class ReadmeTest {
    private static final Path README = Path.of("README.md");
    private static final Pattern ROW = Pattern.compile("(?:int (\\w+) = )?atlas\\.(\\w+)\\(([^)]*)\\); *// (-?\\d+).*");

    private final Check check = new Check();
    private final DialectAtlas atlas = new DialectAtlas();
    private final Map<String, Integer> named = new HashMap<>();
    private final Map<String, Method> face = new HashMap<>();
    private final Set<String> shown = new TreeSet<>();

    public static void main(String[] args) throws IOException, ReflectiveOperationException {
        new ReadmeTest().run(Files.readString(README));
    }

    private void run(String readme) throws ReflectiveOperationException {
        for (Method m : DialectAtlas.class.getDeclaredMethods()) {
            if (Modifier.isPublic(m.getModifiers())) {
                face.put(m.getName(), m);
            }
        }
        for (String row : readme.lines().filter(line -> line.contains("atlas.")).toList()) {
            call(row);
        }
        check.holds("that README.md shows all of " + new TreeSet<>(face.keySet()), shown.equals(face.keySet()));
        check.end();
    }

    private void call(String row) throws ReflectiveOperationException {
        Matcher parts = ROW.matcher(row);
        boolean isCall = parts.matches() && face.containsKey(parts.group(2));
        check.holds("that \"" + row + "\" is a call with its answer", isCall);
        if (!isCall) {
            return;
        }
        Method m = face.get(parts.group(2));
        int answer = (Integer) m.invoke(atlas, arguments(m, parts.group(3)));
        check.due(row, Integer.parseInt(parts.group(4)), answer);
        shown.add(m.getName());
        if (parts.group(1) != null) {
            named.put(parts.group(1), answer);
        }
    }

    private Object[] arguments(Method m, String list) {
        Object[] values = new Object[m.getParameterCount()];
        String[] words = list.isEmpty() ? new String[0] : list.split(", ");
        check.due("arguments of " + m.getName(), values.length, words.length);
        for (int i = 0; i < values.length; i++) {
            long value = named.containsKey(words[i]) ? named.get(words[i]) : Long.decode(words[i].replace("L", ""));
            values[i] = m.getParameterTypes()[i] == long.class ? (Object) value : (Object) (int) value;
        }
        return values;
    }
}
