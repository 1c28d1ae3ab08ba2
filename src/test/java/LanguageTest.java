import java.io.IOException;
import java.lang.reflect.Field;
import java.lang.reflect.Method;
import java.lang.reflect.Modifier;
import java.nio.file.Files;
import java.nio.file.Path;
import java.util.ArrayList;
import java.util.List;
import java.util.regex.Matcher;
import java.util.regex.Pattern;

/**
 * The rules of ../shared/LANGUAGE.md that can be seen in the words of the source or counted in the
 * class; run from the project's folder.
 */
final class LanguageTest {
    private static final Path SOURCE = Path.of("src/main/java/BootStage.java");
    private static final String[] FORBIDDEN = {
        "import (?!java\\.util\\.ArrayList;)", "\\bpackage\\b", "->", "::", "\\b(try|catch|finally)\\b",
        "\\b(synchronized|assert|instanceof|float|double)\\b", "Exact\\b", "\\bSystem\\b", "\\bStringBuilder\\b",
        "\"\\s*\\+", "\\+\\s*\"", "\\bstatic (?!final\\b)", "\\b(equals|hashCode|toString)\\(",
        "\\bMath\\.(?!(max|min)\\()", "\\bwishes\\.(?!(size|get|add)\\()"
    };

    /** A method's or constructor's head, in one line or two, to the brace that closes as deep as it stands. */
    private static final Pattern METHOD = Pattern.compile("(?m)^(?<depth> {4}| {8})"
            + "(?<head>(?! |if|for|while|do|switch|private static final class)[^\n]*\\([^\n]*(\n +throws [^\n]*)?)"
            + "\\{\n([^\n]*\n)*?\\k<depth>\\}$");

    private LanguageTest() {
    }

    public static void main(String[] args) throws IOException {
        String source = Files.readString(SOURCE);
        for (String forbidden : FORBIDDEN) {
            Matcher matcher = Pattern.compile(forbidden).matcher(source);
            Check.dueText("the search for " + forbidden, matcher.find() ? matcher.group() : "", "");
        }
        String signs = source.chars().allMatch(sign -> sign >= 1 && sign <= 127) ? "plain" : "others";
        Check.dueText("the signs of the source", signs, "plain");
        methodsAreShort(source);
        countsAreKept();
        Check.finish();
    }

    /** Rule 11: some sixty lines. A method's brace is closed as deep as its first line stands. */
    private static void methodsAreShort(String source) {
        Matcher body = METHOD.matcher(source);
        int found = 0;
        while (body.find()) {
            int lines = body.group().split("\\R").length;
            Check.due("a method is longer than 60 lines: " + body.group("head"), lines > 60, false);
            found++;
        }
        int all = 0;
        for (Class<?> one : allClasses()) {
            all += one.getDeclaredMethods().length + one.getDeclaredConstructors().length;
        }
        Check.due("methods and constructors found in the source", found, all);
    }

    /** Rules 5, 6 and 11: static state, synchronized, classes, fields, parameters. */
    private static void countsAreKept() {
        List<Class<?>> classes = allClasses();
        Check.due("there are more than 12 classes", classes.size() > 12, false);
        for (Class<?> one : classes) {
            int fields = 0;
            for (Field field : one.getDeclaredFields()) {
                boolean isStatic = Modifier.isStatic(field.getModifiers());
                fields += isStatic ? 0 : 1;
                Check.due(field + " is static and not final",
                        isStatic && !Modifier.isFinal(field.getModifiers()), false);
            }
            Check.due(one + " has more than 20 fields", fields > 20, false);
            for (Method method : one.getDeclaredMethods()) {
                Check.due(method + " has more than 7 parameters", method.getParameterCount() > 7, false);
                Check.due(method + " is native or synchronized",
                        method.getModifiers() & (Modifier.NATIVE | Modifier.SYNCHRONIZED), 0);
            }
        }
    }

    private static List<Class<?>> allClasses() {
        List<Class<?>> classes = new ArrayList<>(List.of(BootStage.class.getDeclaredClasses()));
        classes.add(BootStage.class);
        return classes;
    }
}
