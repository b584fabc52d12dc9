import java.io.IOException;
import java.nio.file.Files;
import java.nio.file.Path;
import java.util.ArrayList;
import java.util.List;
import java.util.regex.Matcher;
import java.util.regex.Pattern;

/** What of LANGUAGE.md a look at the program's text can tell; run in the project's folder. */
public final class LanguageTest {
    private static final Path PROGRAM = Path.of("src", "main", "java", "Gridpuzzle.java");
    private static final String[] REFUSED = {
        "\\btry\\b", "\\bcatch\\b", "\\bfinally\\b", "\\bsynchronized\\b", "\\bassert\\b",
        "\\binstanceof\\b", "\\bnative\\b", "\\bstrictfp\\b", "\\bpackage\\b", "->", "::",
        "\\bSystem\\b", "\\bThread\\b", "Exact\\b", "\\bObject\\b", "\\bvar\\b", "@",
        "\\bstatic \\{", "\\bwhile \\(true\\)", "\\bfor \\(;;\\)",
    };

    public static void main(String[] args) throws IOException {
        String text = withoutComments(Files.readString(PROGRAM));
        for (String refused : REFUSED) {
            Check.due("places of " + refused, count(text, refused), 0);
        }
        Check.due("imports", count(text, "\\bimport\\b"), 1);
        Check.due("imports of Arrays", count(text, "import java\\.util\\.Arrays;"), 1);
        // Rows are read and written in at() and put() alone, behind their tests.
        Check.due("places with an index", count(text, "\\w\\[[^\\]]"), 2 + count(text, "new int\\["));
        Check.due("exceptions thrown", count(text, "\\bthrow\\b"), count(text,
                "throw new (IndexOutOfBounds|IllegalArgument|IllegalState)Exception\\(\"[^\"]*\"\\);"));
        Check.due("divisors", count(text, "[/%]"), count(text, "[/%]=? (MOST_SIZE|MOST_DIGIT)\\b"));
        Check.due("static fields that are not final", count(text, "\\bstatic int \\w+( =|;)"), 0);
        for (String method : methods(text)) {
            long lines = method.lines().count();
            Check.due("a method of " + lines + " lines is short: " + method.lines().findFirst(),
                    lines <= 60, true);
        }
        Check.end("LanguageTest");
    }

    private static String withoutComments(String text) {
        return text.replaceAll("(?s)/\\*.*?\\*/", "").replaceAll("//[^\n]*", "");
    }

    private static int count(String text, String pattern) {
        Matcher matcher = Pattern.compile(pattern).matcher(text);
        int count = 0;
        while (matcher.find()) {
            count++;
        }
        return count;
    }

    /** The bodies that begin behind a closing parenthesis or a throws clause at a member's depth. */
    private static List<String> methods(String text) {
        List<String> found = new ArrayList<>();
        Matcher matcher = Pattern.compile("(?m)^(    |        )\\w[^=;]*?\\)[^;{]*\\{\\n(?s:.*?)^\\1\\}$")
                .matcher(text);
        while (matcher.find()) {
            found.add(matcher.group());
        }
        Check.due("methods are found", found.size() > 40, true);
        return found;
    }
}
