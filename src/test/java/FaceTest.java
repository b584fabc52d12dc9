import java.io.IOException;
import java.lang.reflect.Constructor;
import java.lang.reflect.Field;
import java.lang.reflect.Method;
import java.lang.reflect.Modifier;
import java.nio.file.Files;
import java.nio.file.Path;
import java.util.ArrayList;
import java.util.Arrays;
import java.util.List;
import java.util.Set;
import java.util.TreeSet;
import java.util.regex.Matcher;
import java.util.regex.Pattern;

/**
 * The public face is the document's, with its throws clauses, no member more, and the words that
 * the document wants ahead of them; run in the project's folder.
 */
public final class FaceTest {
    private static final String[] FACE = {
        "public static final int NONE",
        "public Gridpuzzle()",
        "public void begin(int) throws IllegalArgumentException",
        "public boolean bar(int) throws IndexOutOfBoundsException",
        "public int barBoth(int) throws IndexOutOfBoundsException",
        "public int give(int, int) throws IndexOutOfBoundsException, IllegalArgumentException,"
                + " IllegalStateException",
        "public int setSum(int, int) throws IndexOutOfBoundsException, IllegalArgumentException",
        "public int press() throws IllegalStateException",
        "public int open()",
        "public int runs()",
        "public int firstOf(int) throws IndexOutOfBoundsException",
        "public int lengthOf(int) throws IndexOutOfBoundsException",
        "public int sumOf(int) throws IndexOutOfBoundsException",
        "public int digit(int) throws IndexOutOfBoundsException",
        "public int answers(int) throws IllegalArgumentException",
        "public int answersByAll() throws IllegalStateException",
        "public int mend() throws IllegalStateException",
        "public int level()",
        "public int candidates(int, int) throws IndexOutOfBoundsException,"
                + " IllegalArgumentException",
        "public int hint()",
        "public int hintRules()",
    };

    // What the document has the interface say, and the calls behind it, in its order.
    private static final List<String> WORDS = List.of(
            "---- drawing", "begin", "bar", "barBoth", "give", "setSum", "press",
            "---- the board", "open", "runs", "firstOf", "lengthOf", "sumOf", "digit",
            "---- answers", "answers", "answersByAll", "mend",
            "---- rules", "level", "candidates", "hint", "hintRules");

    public static void main(String[] args) throws IOException {
        Set<String> found = new TreeSet<>();
        Set<String> publicNames = new TreeSet<>();
        for (Field field : Gridpuzzle.class.getDeclaredFields()) {
            if (!Modifier.isPrivate(field.getModifiers())) {
                found.add(Modifier.toString(field.getModifiers()) + " " + field.getType() + " "
                        + field.getName());
            }
        }
        for (Constructor<?> made : Gridpuzzle.class.getDeclaredConstructors()) {
            if (!Modifier.isPrivate(made.getModifiers())) {
                found.add(Modifier.toString(made.getModifiers()) + " Gridpuzzle"
                        + listed(made.getParameterTypes(), "(", ")"));
            }
        }
        for (Method method : Gridpuzzle.class.getDeclaredMethods()) {
            if (!Modifier.isPrivate(method.getModifiers())) {
                publicNames.add(method.getName());
                found.add(told(method));
            }
        }
        Check.due("the face is the document's, not " + found,
                found.equals(new TreeSet<>(Arrays.asList(FACE))), true);
        dueOwnNames(publicNames);
        Check.due("Gridpuzzle is public and final", Gridpuzzle.class.getModifiers(),
                Modifier.PUBLIC | Modifier.FINAL);
        Check.due("NONE", Gridpuzzle.NONE, -1);
        dueWordsAhead();
        Check.end("FaceTest");
    }

    private static String told(Method method) {
        String clause = method.getExceptionTypes().length == 0 ? ""
                : " throws " + listed(method.getExceptionTypes(), "", "");
        return Modifier.toString(method.getModifiers()) + " " + method.getReturnType() + " "
                + method.getName() + listed(method.getParameterTypes(), "(", ")") + clause;
    }

    private static String listed(Class<?>[] types, String open, String close) {
        StringBuilder told = new StringBuilder(open);
        for (int i = 0; i < types.length; i++) {
            told.append(i == 0 ? "" : ", ").append(types[i].getSimpleName());
        }
        return told.append(close).toString();
    }

    private static void dueWordsAhead() throws IOException {
        String text = Files.readString(Path.of("src", "main", "java", "Gridpuzzle.java"));
        List<String> words = new ArrayList<>();
        Matcher matcher = Pattern.compile("// (----.*)|\n    public \\w+ (\\w+)\\(").matcher(text);
        while (matcher.find()) {
            words.add(matcher.group(1) != null ? matcher.group(1) : matcher.group(2));
        }
        Check.due("the words ahead of the calls are the document's, not " + words,
                words.equals(WORDS), true);
    }

    /** LANGUAGE.md, rule 1: no private method bears the name of a public one. */
    private static void dueOwnNames(Set<String> publicNames) {
        for (Method method : Gridpuzzle.class.getDeclaredMethods()) {
            if (Modifier.isPrivate(method.getModifiers())) {
                Check.due(method.getName() + " is no name of the face",
                        publicNames.contains(method.getName()), false);
            }
        }
        for (Class<?> inside : Gridpuzzle.class.getDeclaredClasses()) {
            Check.due(inside + " is static", Modifier.isStatic(inside.getModifiers()), true);
            Check.due(inside + " is not public", Modifier.isPublic(inside.getModifiers()), false);
            for (Method method : inside.getDeclaredMethods()) {
                Check.due(method + " has no name of the face",
                        publicNames.contains(method.getName()), false);
            }
        }
    }
}
