import java.nio.file.Files;
import java.nio.file.Path;
import java.util.List;
import java.util.Set;
import java.util.TreeSet;
import java.util.regex.Matcher;
import java.util.regex.Pattern;
import java.util.stream.Stream;

/** README.md tells the truth: its calls answer what it says, and it names every call and every test. */
public final class ReadmeTest {
    private static final Due DUE = new Due();
    private static final Pattern ASKED = Pattern.compile("town\\.(\\w+\\(.*\\)); *// (-?\\d+)(:.*)?");
    private static final Pattern TEST_ROW = Pattern.compile("\\| (\\w+Test) \\|.*");
    private static final Pattern CALL_ROW = Pattern.compile("\\| `(\\w+)\\(.*\\)` \\|.*");

    /** The run of the README: each line is a call with its answer, on one object. */
    private static void calls(List<String> lines) {
        DoorStars town = new DoorStars();
        int asked = 0;
        for (String line : lines) {
            if (!line.startsWith("town.")) continue;
            Matcher matcher = ASKED.matcher(line);
            DUE.holds("a call with its answer: " + line, matcher.matches());
            if (!matcher.matches()) continue;
            DUE.is(line, Call.of(matcher.group(1)).on(town), Long.parseLong(matcher.group(2)));
            asked++;
        }
        DUE.holds("README.md has a run of calls", asked > 0);
    }

    private static Set<String> named(List<String> lines, Pattern row) {
        Set<String> names = new TreeSet<>();
        for (String line : lines) {
            Matcher matcher = row.matcher(line);
            if (matcher.matches()) DUE.holds("once: " + line, names.add(matcher.group(1)));
        }
        return names;
    }

    private static Set<String> tests() throws Exception {
        Set<String> names = new TreeSet<>();
        try (Stream<Path> files = Files.list(Path.of("src/test/java"))) {
            files.map(file -> file.getFileName().toString()).filter(name -> name.endsWith("Test.java"))
                    .forEach(name -> names.add(name.substring(0, name.length() - ".java".length())));
        }
        return names;
    }

    private static Set<String> face() {
        Set<String> names = new TreeSet<>();
        for (java.lang.reflect.Method method : DoorStars.class.getMethods()) {
            if (method.getDeclaringClass() == DoorStars.class) names.add(method.getName());
        }
        return names;
    }

    public static void main(String[] args) throws Exception {
        List<String> lines = Files.readAllLines(Path.of("README.md"));
        calls(lines);
        DUE.same("the calls that README.md names", named(lines, CALL_ROW).toString(), face().toString());
        DUE.same("the tests that README.md names", named(lines, TEST_ROW).toString(), tests().toString());
        DUE.finish();
    }
}
