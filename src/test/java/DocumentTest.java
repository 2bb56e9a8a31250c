import java.io.IOException;
import java.lang.reflect.Method;
import java.nio.file.Files;
import java.nio.file.Path;
import java.util.Arrays;
import java.util.Map;
import java.util.TreeMap;
import java.util.regex.Matcher;
import java.util.regex.Pattern;

/**
 * The class has the document's face; each word of its Terms and promises is held by a test of Sentences, and each of
 * these quotes it rightly.
 */
public final class DocumentTest {
    private static final Path DOCUMENT = Path.of("../shared/DOC.md");
    private static final Path SOURCE = Path.of("src/main/java/DialectAtlas.java");
    private static final int PROMISES = 35;

    private final Check check = new Check();
    /** The document's texts by their places, and which of their signs a test quotes. */
    private final Map<String, String> texts = new TreeMap<>();
    private final Map<String, boolean[]> quoted = new TreeMap<>();
    private final boolean[] isNamed = new boolean[PROMISES + 1];

    public static void main(String[] args) throws IOException {
        DocumentTest test = new DocumentTest();
        String document = Files.readString(DOCUMENT);
        test.compareFace(document, Files.readString(SOURCE));
        test.read(document);
        for (Class<?> type : Sentences.TESTS) {
            for (Method m : Sentences.of(type)) {
                test.mark(m.getName(), m.getAnnotation(Says.class));
            }
        }
        test.tellWhatIsLeft();
        test.check.end();
    }

    /** What stands open in the class is the document's code block, in its order, with the headings ahead of their calls. */
    private void compareFace(String document, String source) {
        StringBuilder want = new StringBuilder();
        Matcher headings = Pattern.compile("Ahead of the calls `(\\w+)`.*says: ----(.*)\\.").matcher(document);
        Map<String, String> headingOf = new TreeMap<>();
        while (headings.find()) {
            headingOf.put(headings.group(1), headings.group(2));
        }
        check.due("headings", 6, headingOf.size());
        Matcher calls = Pattern.compile("public (?:int )?(\\w+)\\(.*\\)(?=;)").matcher(document);
        while (calls.find()) {
            String heading = headingOf.get(calls.group(1));
            want.append(heading == null ? "" : "// ----" + heading + "\n").append(calls.group()).append("\n");
        }
        StringBuilder got = new StringBuilder();
        Matcher open = Pattern.compile("// ----.*|public .*\\)(?= \\{)").matcher(source);
        while (open.find()) {
            got.append(open.group()).append("\n");
        }
        check.due("lines of the face", PROMISES + 6, want.toString().lines().count());
        check.holds("that the face is\n" + want + "and not\n" + got + "which", want.toString().equals(got.toString()));
    }

    private void read(String document) {
        String terms = document.substring(document.indexOf("## Terms") + 8, document.indexOf("Ahead of the calls"));
        String[] parts = terms.replaceAll("```(text)?", "").split("\n(?=\\d\\. )");
        for (int i = 0; i < parts.length; i++) {
            add("Term " + i, parts[i].replaceFirst("^\\d\\. ", ""));
        }
        Matcher promises = Pattern.compile("## Promise (\\d+): .*\n\n`[^`]*`: (.*)").matcher(document);
        while (promises.find()) {
            add("Promise " + promises.group(1), promises.group(2));
        }
        check.due("terms and promises", 7 + PROMISES, texts.size());
    }

    private void add(String place, String text) {
        String line = text.replaceAll("\\s+", " ").trim();
        texts.put(place, line);
        quoted.put(place, new boolean[line.length()]);
    }

    private void mark(String name, Says says) {
        for (int promise : says.promise()) {
            check.holds(name + ": there is a promise " + promise, promise >= 1 && promise <= PROMISES);
            isNamed[Math.max(0, Math.min(promise, PROMISES))] = true;
            String place = says.term() == Says.UNDER_THE_PROMISE ? "Promise " + promise : "Term " + says.term();
            String text = texts.getOrDefault(place, "");
            int from = text.indexOf(says.text());
            boolean isOnce = from >= 0 && from == text.lastIndexOf(says.text());
            check.holds(name + ": \"" + says.text() + "\" stands once in " + place, isOnce);
            if (isOnce) {
                Arrays.fill(quoted.get(place), from, from + says.text().length(), true);
            }
        }
    }

    private void tellWhatIsLeft() {
        for (int promise = 1; promise <= PROMISES; promise++) {
            check.holds("promise " + promise + " is named by a test", isNamed[promise]);
        }
        for (Map.Entry<String, String> entry : texts.entrySet()) {
            StringBuilder left = new StringBuilder();
            boolean[] isQuoted = quoted.get(entry.getKey());
            for (int i = 0; i < isQuoted.length; i++) {
                left.append(isQuoted[i] ? ' ' : entry.getValue().charAt(i));
            }
            boolean isAll = left.chars().noneMatch(Character::isLetterOrDigit);
            check.holds("that tests quote \"" + left.toString().replaceAll("\\s+", " ").trim() + "\" of "
                    + entry.getKey(), isAll);
        }
    }
}
