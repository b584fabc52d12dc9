import java.io.ByteArrayOutputStream;
import java.io.IOException;
import java.io.PrintStream;
import java.lang.reflect.Method;
import java.lang.reflect.Modifier;
import java.nio.file.Files;
import java.nio.file.Path;
import java.util.ArrayList;
import java.util.List;
import java.util.Set;
import java.util.TreeSet;
import java.util.regex.Matcher;
import java.util.regex.Pattern;
import java.util.stream.Stream;

/** What README.md shows and names holds of the project; run in the project's folder. */
public final class ReadmeTest {
    private static final Path README = Path.of("README.md");
    private static final Path EXAMPLE = Path.of("src", "example", "java", "Example.java");
    private static final Path TESTS = Path.of("src", "test", "java");

    public static void main(String[] args) throws IOException {
        String readme = Files.readString(README);
        showsTheExample(readme);
        tellsWhatItPrints();
        namesAllTests(readme);
        namesAllCalls(readme);
        namesWhatIsThere(readme);
        Check.end("ReadmeTest");
    }

    /** All that stands in the first group of a pattern, in order. */
    private static List<String> all(String text, String pattern) {
        List<String> found = new ArrayList<>();
        Matcher matcher = Pattern.compile(pattern).matcher(text);
        while (matcher.find()) {
            found.add(matcher.group(1));
        }
        return found;
    }

    private static void dueSame(String what, Object got, Object want) {
        if (!got.equals(want)) {
            System.out.println(what + ": there is\n  " + got + "\ndue is\n  " + want);
        }
        Check.due(what, got.equals(want), true);
    }

    private static void showsTheExample(String readme) throws IOException {
        List<String> shown = all(readme, "(?s)\n```java\n(.*?)```\n");
        Check.due("programs that README.md shows", shown.size(), 1);
        dueSame("README.md shows Example.java", String.join("", shown),
                Files.readString(EXAMPLE));
    }

    /** The first word of the comment beside each println is what it prints. */
    private static void tellsWhatItPrints() throws IOException {
        String text = Files.readString(EXAMPLE);
        List<String> told = all(text, "println\\(.*// (\\w+)");
        Check.due("lines that Example.java prints", told.size(), all(text, "(println)").size());
        PrintStream out = System.out;
        ByteArrayOutputStream kept = new ByteArrayOutputStream();
        System.setOut(new PrintStream(kept, true));
        try {
            Example.main(new String[0]);
        } finally {
            System.setOut(out);
        }
        dueSame("what Example.java prints", kept.toString().lines().toList(), told);
    }

    private static void namesAllTests(String readme) throws IOException {
        Set<String> there = new TreeSet<>();
        try (Stream<Path> files = Files.list(TESTS)) {
            files.map(file -> file.getFileName().toString())
                    .filter(name -> name.endsWith("Test.java"))
                    .forEach(name -> there.add(name.substring(0, name.length() - 5)));
        }
        List<String> rows = all(readme, "\n\\| `(\\w+Test)` \\|");
        dueSame("the tests of README.md", new TreeSet<>(rows), there);
        Check.due("rows of them", rows.size(), there.size());
    }

    private static void namesAllCalls(String readme) {
        Set<String> there = new TreeSet<>();
        for (Method method : Gridpuzzle.class.getDeclaredMethods()) {
            if (Modifier.isPublic(method.getModifiers())) {
                there.add(method.getName());
            }
        }
        List<String> named = new ArrayList<>();
        for (String row : all(readme, "\n\\| \\d+ to \\d+ \\|([^|]*)\\|")) {
            named.addAll(all(row, "`(\\w+)`"));
        }
        dueSame("the calls of README.md", new TreeSet<>(named), there);
        Check.due("their number", named.size(), there.size());
    }

    private static void namesWhatIsThere(String readme) {
        List<String> paths = all(readme, "[`\\s]((?:\\.\\./shared|src|\\.ci)/[\\w./]*[\\w])[`\\s]");
        Check.due("paths that README.md names", paths.size() >= 8, true);
        for (String path : paths) {
            Check.due(path + " is there", Files.exists(Path.of(path)), true);
        }
    }
}
