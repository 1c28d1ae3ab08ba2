import java.io.IOException;
import java.nio.file.Files;
import java.nio.file.Path;
import java.util.regex.Matcher;
import java.util.regex.Pattern;

/** The rules of ../shared/LANGUAGE.md that can be seen in the words of the source, run from the project's folder. */
final class LanguageTest {
    private static final Path SOURCE = Path.of("src/main/java/BootStage.java");
    private static final String[] FORBIDDEN = {
        "import (?!java\\.util\\.ArrayList;)", "\\bpackage\\b", "->", "::", "\\b(try|catch|finally)\\b",
        "\\b(synchronized|assert|instanceof|float|double)\\b", "Exact\\b", "\\bSystem\\b", "\\bStringBuilder\\b",
        "\"\\s*\\+", "\\+\\s*\"", "\\bstatic (?!final\\b)", "\\b(equals|hashCode|toString)\\("
    };

    private LanguageTest() {
    }

    public static void main(String[] args) throws IOException {
        String source = Files.readString(SOURCE);
        for (String forbidden : FORBIDDEN) {
            Matcher matcher = Pattern.compile(forbidden).matcher(source);
            Check.dueText("the search for " + forbidden, matcher.find() ? matcher.group() : "", "");
        }
        String signs = source.chars().allMatch(sign -> sign >= 1 && sign <= 127) ? "plain" : "others";
        Check.dueText("the signs of the source", signs, "plain");
        Check.finish();
    }
}
