import java.io.IOException;
import java.io.PrintStream;
import java.nio.file.Files;
import java.nio.file.Path;
import java.util.ArrayList;
import java.util.Comparator;
import java.util.List;
import java.util.Map;
import java.util.concurrent.TimeUnit;
import java.util.regex.Matcher;
import java.util.regex.Pattern;
import java.util.stream.IntStream;
import java.util.stream.Stream;
import javax.tools.ToolProvider;

/**
 * Breaks DialectAtlas in one place at a time and tells which of these mutants no test of Sentences sees: each is
 * either just as good as the class, or shows a sentence whose test is too weak. It takes minutes; .ci/run leaves it out.
 */
public final class Mutants {
    private static final Path SOURCE = Path.of("src/main/java/DialectAtlas.java");
    private static final Path PROJECT = Path.of("build/project");
    private static final Path OUT = Path.of("build/mutants");
    private static final int SECONDS = 60;
    private static final String HOLD = "hold";
    private static final Map<String, List<String>> OTHERS = Map.ofEntries(
            Map.entry("<", List.of("<=", ">=")), Map.entry(">", List.of(">=", "<=")), Map.entry("<=", List.of("<")),
            Map.entry(">=", List.of(">")), Map.entry("==", List.of("!=")), Map.entry("!=", List.of("==")),
            Map.entry("&&", List.of("||")), Map.entry("||", List.of("&&")), Map.entry("+", List.of("-")),
            Map.entry("-", List.of("+")), Map.entry("*", List.of("/")), Map.entry("/", List.of("*")),
            Map.entry("%", List.of("*")));

    private record Mutant(int line, String text) {
    }

    public static void main(String[] args) throws IOException, IllegalAccessException {
        if (args.length > 0 && args[0].equals(HOLD)) {
            System.exit(isAnyBroken() ? 1 : 0);
        }
        List<String> lines = Files.readAllLines(SOURCE);
        List<Mutant> mutants = allOf(lines);
        List<Mutant> unseen = IntStream.range(0, mutants.size()).parallel()
                .filter(i -> !isSeen(i, mutants.get(i), lines)).mapToObj(mutants::get).toList();
        for (Mutant m : unseen) {
            System.out.println(m.line + 1 + "  " + lines.get(m.line).trim() + "\n   ->  " + m.text.trim());
        }
        System.out.println(mutants.size() + " mutants, " + unseen.size() + " that no sentence's test sees");
    }

    private static boolean isAnyBroken() throws IllegalAccessException {
        System.setOut(new PrintStream(PrintStream.nullOutputStream()));
        Check check = new Check();
        for (Class<?> test : Sentences.TESTS) {
            Sentences.holdAll(test, check);
        }
        return check.wrong() > 0;
    }

    private static List<Mutant> allOf(List<String> lines) {
        List<Mutant> mutants = new ArrayList<>();
        for (int i = 0; i < lines.size(); i++) {
            String line = lines.get(i);
            if (!line.trim().matches("(//|\\*|/\\*|import).*")) {
                for (String text : broken(line)) {
                    mutants.add(new Mutant(i, text));
                }
            }
        }
        return mutants;
    }

    private static List<String> broken(String line) {
        List<String> list = new ArrayList<>();
        Matcher numbers = Pattern.compile("(?<![\\w.])(\\d+)(?![\\w.])").matcher(line);
        while (numbers.find()) {
            long number = Long.parseLong(numbers.group(1));
            list.add(replaced(line, numbers, "" + (number + 1)));
            list.add(replaced(line, numbers, "(" + (number - 1) + ")"));
        }
        Matcher signs = Pattern.compile("(?<= )(<=|>=|==|!=|&&|\\|\\||[<>+*/%-])(?= )").matcher(line);
        while (signs.find()) {
            for (String other : OTHERS.get(signs.group(1))) {
                list.add(replaced(line, signs, other));
            }
        }
        Matcher findings = Pattern.compile("finding\\(([A-Z]+)\\)").matcher(line);
        while (findings.find()) {
            list.add(replaced(line, findings, findings.group(1).equals("CUT") ? "NONE" : "CUT"));
        }
        addConditions(line, list);
        if (line.matches("\\s+[\\w.\\[\\] *+]+(\\(.*\\)|\\s*[-+|&]?=\\s.*|\\+\\+|--);")
                && !line.matches("\\s*(int|boolean|long|private|static|final|return)\\b.*")) {
            list.add(";");
        }
        return list;
    }

    private static String replaced(String line, Matcher found, String other) {
        return line.substring(0, found.start(1)) + other + line.substring(found.end(1));
    }

    /** An if that is always, or never, and one that lacks one of its terms. */
    private static void addConditions(String line, List<String> list) {
        Matcher found = Pattern.compile("^\\s*if \\((.*)\\) \\{$").matcher(line);
        if (!found.find()) {
            return;
        }
        list.add(replaced(line, found, "true || (" + found.group(1) + ")"));
        list.add(replaced(line, found, "false && (" + found.group(1) + ")"));
        String joint = found.group(1).contains(" || ") ? " || " : " && ";
        String[] terms = found.group(1).split(Pattern.quote(joint));
        for (int out = 0; out < terms.length && terms.length > 1; out++) {
            List<String> rest = new ArrayList<>(List.of(terms));
            rest.remove(out);
            list.add(replaced(line, found, String.join(joint, rest)));
        }
    }

    /** A mutant that does not compile, or does not end, is seen, too. */
    private static boolean isSeen(int number, Mutant mutant, List<String> lines) {
        Path dir = OUT.resolve("" + number);
        try {
            List<String> text = new ArrayList<>(lines);
            text.set(mutant.line, mutant.text);
            Files.createDirectories(dir);
            Path file = Files.write(dir.resolve("DialectAtlas.java"), text);
            int compiled = ToolProvider.getSystemJavaCompiler().run(null, PrintStream.nullOutputStream(),
                    PrintStream.nullOutputStream(), "-d", dir.toString(), file.toString());
            return compiled != 0 || !holds(dir);
        } catch (IOException | InterruptedException failed) {
            throw new IllegalStateException(failed);
        } finally {
            delete(dir);
        }
    }

    private static boolean holds(Path dir) throws IOException, InterruptedException {
        Process run = new ProcessBuilder("java", "-XX:TieredStopAtLevel=1", "-XX:+UseSerialGC", "-cp",
                dir + ":" + PROJECT, "Mutants", HOLD).redirectErrorStream(true).redirectOutput(
                ProcessBuilder.Redirect.DISCARD).start();
        if (!run.waitFor(SECONDS, TimeUnit.SECONDS)) {
            run.destroyForcibly();
            return false;
        }
        return run.exitValue() == 0;
    }

    private static void delete(Path dir) {
        try (Stream<Path> files = Files.walk(dir)) {
            for (Path file : files.sorted(Comparator.reverseOrder()).toList()) {
                Files.delete(file);
            }
        } catch (IOException failed) {
            throw new IllegalStateException(failed);
        }
    }
}
