import java.io.IOException;
import java.lang.reflect.Field;
import java.lang.reflect.Method;
import java.lang.reflect.Modifier;
import java.nio.file.Files;
import java.nio.file.Path;
import java.util.ArrayList;
import java.util.List;
import java.util.Map;
import java.util.Set;
import java.util.TreeMap;
import java.util.TreeSet;
import java.util.regex.Matcher;
import java.util.regex.Pattern;

/** What of LANGUAGE.md a look at the program can tell; run in the project's folder. */
public final class LanguageTest {
    private static final Path PROGRAM = Path.of("src", "main", "java", "Gridpuzzle.java");
    private static final String[] REFUSED = {
        "\\btry\\b", "\\bcatch\\b", "\\bfinally\\b", "\\bsynchronized\\b", "\\bassert\\b",
        "\\binstanceof\\b", "\\bnative\\b", "\\bstrictfp\\b", "\\bpackage\\b", "->", "::",
        "\\bSystem\\b", "\\bThread\\b", "Exact\\b", "\\bObject\\b", "\\bvar\\b", "@",
        "\\bstatic \\{", "\\bwhile \\(true\\)", "\\bfor \\(;;\\)", "\\[\\]\\[\\]", "[^\\x00-\\x7F]",
    };
    // The one that calls itself, with the number of cells that are left as the guard.
    private static final String RECURSIVE = "canMake";
    private static final int MOST_CALLS_DEEP = 8;

    public static void main(String[] args) throws IOException {
        String text = withoutComments(Files.readString(PROGRAM));
        looks(text);
        library(text);
        loops(text);
        List<String> methods = methods(text);
        for (String method : methods) {
            long lines = method.lines().count();
            Check.due("a method of " + lines + " lines is short: " + method.lines().findFirst(),
                    lines <= 60, true);
        }
        calls(methods);
        Class<?>[] inside = Gridpuzzle.class.getDeclaredClasses();
        Check.due("there are few classes", inside.length < 12, true);
        members(Gridpuzzle.class);
        for (Class<?> one : inside) {
            members(one);
        }
        Check.end("LanguageTest");
    }

    private static void looks(String text) {
        for (String refused : REFUSED) {
            Check.due("places of " + refused, count(text, refused), 0);
        }
        Check.due("imports", count(text, "\\bimport\\b"), 1);
        Check.due("imports of Arrays", count(text, "import java\\.util\\.Arrays;"), 1);
        // Rows are read and written in at() and put() alone, behind their tests.
        Check.due("places with an index", count(text, "\\w\\[[^\\]]"), 2 + count(text, "new int\\["));
        Check.due("exceptions thrown", count(text, "\\bthrow\\b"), count(text,
                "throw new (IndexOutOfBounds|IllegalArgument|IllegalState)Exception\\(\"[^\"]*\"\\);"));
        Check.due("divisors", count(text, "[/%]"), count(text, "[/%]=? (MOST_SIZE|MOST_DIGIT)\\b"));
        Check.due("static fields that are not final", count(text, "\\bstatic int \\w+( =|;)"), 0);
        // Objects are made in fields and constructors alone, but for exceptions.
        Check.due("objects made", count(text, "\\bnew\\b"), count(text, "\\bthrow new\\b")
                + count(text, "private final int\\[\\] \\w+ = new int\\[\\w+\\];")
                + count(text, "\n        (board|trying|solving) = new "));
    }

    /** The rule 4, as far as the program makes use of it. */
    private static void library(String text) {
        String plain = text.replaceAll("\"[^\"]*\"", "").replaceAll("import [^;]*;", "");
        Set<String> used = new TreeSet<>();
        Matcher matcher = Pattern.compile("\\b[A-Z]\\w*\\.\\w+").matcher(plain);
        while (matcher.find()) {
            used.add(matcher.group());
        }
        Check.due("the library's functions are three, not " + used,
                used.equals(Set.of("Arrays.fill", "Math.max", "Integer.bitCount")), true);
    }

    /** The rule 9: each loop counts against a bound that its own first line tells. */
    private static void loops(String text) {
        Check.due("loops that count", count(text, "\\bfor \\("),
                count(text, "for \\(int \\w+ = \\w+; [^;]*<[^;]*; \\w+(\\+\\+| \\+= 2)\\) \\{"));
        Check.due("other loops", count(text, "\\b(while|do)\\b"),
                count(text, "while \\(back >= 0 && [^{]*\\{\n[^}]*\\bback--;\n"));
    }

    /** The rules 8 and 11: who calls himself, and how deep the calls go that are no recursion. */
    private static void calls(List<String> methods) {
        Map<String, Set<String>> callees = new TreeMap<>();
        for (String method : methods) {
            // Methods of one name in two classes are taken for one: no call is overlooked by that.
            callees.computeIfAbsent(nameOf(method), name -> new TreeSet<>())
                    .addAll(calledIn(method.substring(method.indexOf('{'))));
        }
        for (String name : callees.keySet()) {
            int deep = depth(name, callees, new ArrayList<>());
            Check.due("calls of " + name + "() go " + deep + " deep", deep <= MOST_CALLS_DEEP, true);
        }
    }

    private static String nameOf(String method) {
        Matcher matcher = Pattern.compile("(\\w+)\\(").matcher(method);
        return matcher.find() ? matcher.group(1) : "";
    }

    private static Set<String> calledIn(String body) {
        Set<String> called = new TreeSet<>();
        Matcher matcher = Pattern.compile("(\\w+)\\(").matcher(body);
        while (matcher.find()) {
            called.add(matcher.group(1));
        }
        return called;
    }

    private static int depth(String name, Map<String, Set<String>> callees, List<String> open) {
        Check.due(name + "() is not called behind " + open, open.contains(name), false);
        if (open.contains(name)) {
            return 0;
        }
        open.add(name);
        int deepest = 0;
        for (String called : callees.get(name)) {
            boolean itself = called.equals(name) && name.equals(RECURSIVE);
            if (callees.containsKey(called) && !itself) {
                deepest = Math.max(deepest, depth(called, callees, open));
            }
        }
        open.remove(name);
        return 1 + deepest;
    }

    /** The rules 3, 5 and 11: the kinds and numbers of fields and parameters. */
    private static void members(Class<?> owner) {
        int fields = 0;
        for (Field field : owner.getDeclaredFields()) {
            Class<?> type = field.getType();
            boolean constant = Modifier.isStatic(field.getModifiers());
            fields += constant ? 0 : 1;
            Check.due(field + " is final", constant && !Modifier.isFinal(field.getModifiers()),
                    false);
            Check.due(field + " is of a kind that is used", type == int.class
                    || !constant && (type == boolean.class || type == int[].class
                            || type.getEnclosingClass() == Gridpuzzle.class), true);
        }
        Check.due("fields of " + owner + ", " + fields, fields <= 20, true);
        for (Method method : owner.getDeclaredMethods()) {
            Check.due("parameters of " + method, method.getParameterCount() <= 7, true);
        }
    }

    private static String withoutComments(String text) {
        return text.replaceAll("(?s)/\\*.*?\\*/", "").replaceAll("//[^\n]*", "");
    }

    private static int count(String text, String pattern) {
        Matcher matcher = Pattern.compile(pattern).matcher(text);
        int count = 0;
        while (matcher.find()) {
            count++;
        }
        return count;
    }

    /** The methods and constructors that the text holds, each with its body. */
    private static List<String> methods(String text) {
        List<String> found = new ArrayList<>();
        Set<String> names = new TreeSet<>();
        Matcher matcher = Pattern.compile("(?m)^(    |        )\\w[^=;]*?\\)[^;{]*\\{\\n(?s:.*?)^\\1\\}$")
                .matcher(text);
        while (matcher.find()) {
            found.add(matcher.group());
            names.add(nameOf(matcher.group()));
        }
        List<Class<?>> owners = new ArrayList<>(List.of(Gridpuzzle.class.getDeclaredClasses()));
        owners.add(Gridpuzzle.class);
        int declared = 0;
        for (Class<?> owner : owners) {
            declared += owner.getDeclaredMethods().length;
            for (Method method : owner.getDeclaredMethods()) {
                Check.due(method + " is found", names.contains(method.getName()), true);
            }
        }
        // Three constructors are written out, and Board has its own by default.
        Check.due("methods and constructors found", found.size(), declared + 3);
        return found;
    }
}
