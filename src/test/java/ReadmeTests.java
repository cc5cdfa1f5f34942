import java.io.IOException;
import java.nio.file.Files;
import java.nio.file.Path;
import java.util.Set;
import java.util.TreeSet;
import java.util.regex.Matcher;
import java.util.regex.Pattern;
import java.util.stream.Stream;

/** Runs what README.md shows, read from README.md itself: no row of it may be wrong, none of the calls be left out. */
public final class ReadmeTests {
    private static final Path README = Path.of("README.md"), SCRIPT = Path.of(".ci", "run"), TESTS = Path.of("src", "test", "java");
    private static final String NEW_OBJECT = "FewPlaces x = new FewPlaces();";
    private static final Pattern ROW = Pattern.compile("x\\.(\\w+)(\\([-0-9, ]*\\)); +// (-?[0-9]+|[A-Z]+): \\S.*");
    private static final Pattern CONSTANT = Pattern.compile("\\| `([A-Z]+)` \\| (-?[0-9]+) \\| \\S.* \\|");
    private static final Pattern TEST = Pattern.compile("- `(\\w+Tests)`: .*");

    public static void main(String[] args) throws IOException, ReflectiveOperationException {
        String text = Files.readString(README);
        rows(text);
        constants(text);
        tests(text);
        Run.end();
    }

    private static void rows(String text) throws ReflectiveOperationException {
        Run run = null;
        Set<String> shown = new TreeSet<>();
        boolean isCode = false;
        for (String line : text.split("\n")) {
            if (line.startsWith("```")) {
                isCode = line.equals("```java");
            } else if (isCode && line.equals(NEW_OBJECT)) {
                run = new Run("README.md");
            } else if (isCode) {
                shown.add(row(run, line));
            }
        }
        if (!shown.equals(Run.names())) {
            Run.complain("README.md shows only " + shown);
        }
    }

    /** Tries a row and answers the name of its call. */
    private static String row(Run run, String line) throws ReflectiveOperationException {
        Matcher parts = ROW.matcher(line);
        if (run == null || !parts.matches()) {
            Run.complain("README.md has a row that cannot be run: " + line);
            return "";
        }
        String due = parts.group(3);
        run.rows(parts.group(1) + parts.group(2) + " = " + (Character.isLetter(due.charAt(0)) ? constant(due) : due));
        return parts.group(1);
    }

    private static long constant(String name) throws ReflectiveOperationException {
        return ((Number) FewPlaces.class.getField(name).get(null)).longValue();
    }

    private static void constants(String text) throws ReflectiveOperationException {
        Set<String> shown = new TreeSet<>();
        Matcher rows = CONSTANT.matcher(text);
        while (rows.find()) {
            shown.add(rows.group(1));
            if (constant(rows.group(1)) != Long.parseLong(rows.group(2))) {
                Run.complain("README.md is wrong: " + rows.group());
            }
        }
        if (!shown.equals(Set.of("UNKNOWN", "OUTSIDE", "STATE", "FULL", "NONE"))) {
            Run.complain("README.md tells only " + shown);
        }
    }

    private static void tests(String text) throws IOException {
        Set<String> shown = new TreeSet<>();
        Matcher rows = TEST.matcher(text);
        while (rows.find()) {
            shown.add(rows.group(1));
        }
        Set<String> there = new TreeSet<>();
        try (Stream<Path> files = Files.list(TESTS)) {
            files.map(f -> f.getFileName().toString()).filter(f -> f.endsWith("Tests.java")).forEach(f -> there.add(f.replace(".java", "")));
        }
        if (!shown.equals(there)) {
            Run.complain("README.md tells of the tests " + shown + ", there are " + there);
        }
        if (!text.contains("    .ci/run\n") || !Files.isExecutable(SCRIPT)) {
            Run.complain("README.md does not say how to run the tests, or there is no such script");
        }
    }
}
