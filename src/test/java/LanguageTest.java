import com.sun.source.tree.Tree.Kind;
import java.io.IOException;
import java.nio.file.Files;
import java.nio.file.Path;
import java.util.Collections;
import java.util.EnumSet;
import java.util.Map;
import java.util.Set;
import java.util.TreeSet;
import java.util.regex.Matcher;
import java.util.regex.Pattern;
import javax.lang.model.element.Element;
import javax.lang.model.element.Modifier;

/** What a search in the program and the compiler's trees can tell of the rules in LANGUAGE.md. */
public final class LanguageTest {
    private static final Answers ANSWERS = new Answers("LanguageTest");
    private static final Path PROGRAM = Path.of("src/main/java/TemplateCaller.java");
    private static final String[] RULED_OUT = {"\\bimport\\b", "\\bpackage\\b", "\\bthrows?\\b", "\\btry\\b", "\\bcatch\\b",
        "\\bsynchronized\\b", "\\bassert\\b", "->", "::", "\\bprotected\\b", "\\bstatic \\{", "\\bSystem\\b",
        "\\bThread\\b", "\\bRandom\\b", "\\bObject\\b", "\" \\+|\\+ \"", "@"};
    // Of what rule 4 allows, that alone which the program needs.
    private static final Set<String> LIBRARY = Set.of("Object.<init>", "String.length", "String.charAt", "String.indexOf");
    private static final Set<String> TYPES_OF_CONSTANTS = Set.of("int", "char", "String");
    private static final int MOST_CLASSES = 12;
    private static final int MOST_FIELDS = 20;
    private static final int MOST_LINES = 60;
    private static final int MOST_PARAMETERS = 7;
    private static final int MOST_DEPTH = 8;

    public static void main(String[] args) throws IOException {
        words();
        ProgramForm form = ProgramForm.of(PROGRAM);
        ANSWERS.sentence("rule 1");
        due("methods with a public one's name", namedAsPublic(form), Set.of());
        ANSWERS.sentence("rules 2 and 6");
        due("kinds of code that are ruled out", ruledOut(form.kinds), Set.of());
        ANSWERS.sentence("rule 4");
        due("members of the library", without(form.librarysMembers, LIBRARY), Set.of());
        ANSWERS.sentence("rule 5");
        due("static fields that are not final", form.staticsNotFinal, Set.of());
        due("types of static fields", without(form.staticTypes, TYPES_OF_CONSTANTS), Set.of());
        ANSWERS.sentence("rules 8 and 11");
        due("few enough calls open at once", form.depth(MOST_DEPTH) <= MOST_DEPTH, true);
        due("few enough classes", form.fieldsOfClasses.size() <= MOST_CLASSES, true);
        due("few enough fields", most(form.fieldsOfClasses) <= MOST_FIELDS, true);
        due("few enough lines", most(form.linesOfMethods) <= MOST_LINES, true);
        due("few enough parameters", most(form.parametersOfMethods) <= MOST_PARAMETERS, true);
        // All calls of a run live in one room, so that only a constructor may take of it.
        ANSWERS.sentence("rule 12");
        due("methods that make objects", form.makersOfObjects, Set.of());
        ANSWERS.finish();
    }

    private static void due(String what, Object got, Object want) {
        ANSWERS.due(what, got, want);
    }

    private static void words() throws IOException {
        String program = withoutComments(Files.readString(PROGRAM));
        String code = program.replaceAll("\"[^\"\n]*\"", "\"\"");
        for (String word : RULED_OUT) {
            due("places with " + word, count(word, code), 0L);
        }
        due("classes that are not static, but for the first",
            count("(?<!static final )\\bclass\\b", code), 1L);
        due("chars above 255", program.chars().filter(c -> c > 255).count(), 0L);
    }

    private static String withoutComments(String text) {
        return text.replaceAll("(?s)/\\*.*?\\*/", "").replaceAll("(?m)//.*$", "");
    }

    private static long count(String pattern, String code) {
        Matcher m = Pattern.compile(pattern).matcher(code);
        return m.results().count();
    }

    private static Set<String> namedAsPublic(ProgramForm form) {
        Set<String> names = new TreeSet<>();
        for (Element method : form.methods) {
            if (method.getModifiers().contains(Modifier.PUBLIC)) {
                names.add(method.getSimpleName().toString());
            }
        }
        Set<String> found = new TreeSet<>();
        for (Element method : form.methods) {
            boolean named = names.contains(method.getSimpleName().toString()) && !"<init>".contentEquals(method.getSimpleName());
            if (named && !method.getModifiers().contains(Modifier.PUBLIC)) {
                found.add(ProgramForm.nameOf(method));
            }
        }
        return found;
    }

    private static Set<Kind> ruledOut(Set<Kind> kinds) {
        Set<Kind> found = EnumSet.of(Kind.LAMBDA_EXPRESSION, Kind.MEMBER_REFERENCE, Kind.THROW, Kind.TRY, Kind.CATCH,
            Kind.SYNCHRONIZED, Kind.ASSERT, Kind.SWITCH_EXPRESSION, Kind.ANNOTATION);
        found.retainAll(kinds);
        return found;
    }

    private static Set<String> without(Set<String> all, Set<String> right) {
        Set<String> rest = new TreeSet<>(all);
        rest.removeAll(right);
        return rest;
    }

    private static int most(Map<String, Integer> counts) {
        return Collections.max(counts.values());
    }
}
