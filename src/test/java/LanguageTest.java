import java.io.IOException;
import java.nio.file.Files;
import java.nio.file.Path;
import java.util.regex.Matcher;
import java.util.regex.Pattern;

/** What a search can tell of the rules in LANGUAGE.md: words that the program does not have. */
public final class LanguageTest {
    private static final Path PROGRAM = Path.of("src/main/java/TemplateCaller.java");
    private static final int MOST_CLASSES = 12;
    private static final String[] RULED_OUT = {"\\bimport\\b", "\\bpackage\\b", "\\bthrows?\\b", "\\btry\\b", "\\bcatch\\b",
        "\\bsynchronized\\b", "\\bassert\\b", "->", "::", "\\bprotected\\b", "\\bstatic \\{", "\\bSystem\\b",
        "\\bThread\\b", "\\bRandom\\b", "\\bObject\\b", "\" \\+|\\+ \"", "@"};

    public static void main(String[] args) throws IOException {
        Answers answers = new Answers("LanguageTest");
        String program = withoutComments(Files.readString(PROGRAM));
        String code = program.replaceAll("\"[^\"\n]*\"", "\"\"");
        for (String word : RULED_OUT) {
            answers.due("places with " + word, count(word, code), 0L);
        }
        answers.due("few enough classes", count("\\bclass\\b", code) <= MOST_CLASSES, true);
        answers.due("classes that are not static, but for the first",
            count("(?<!static final )\\bclass\\b", code), 1L);
        answers.due("chars above 255", program.chars().filter(c -> c > 255).count(), 0L);
        answers.finish();
    }

    private static String withoutComments(String text) {
        return text.replaceAll("(?s)/\\*.*?\\*/", "").replaceAll("(?m)//.*$", "");
    }

    private static long count(String pattern, String code) {
        Matcher m = Pattern.compile(pattern).matcher(code);
        return m.results().count();
    }
}
