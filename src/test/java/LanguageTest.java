import java.io.IOException;
import java.lang.reflect.Constructor;
import java.lang.reflect.Field;
import java.lang.reflect.Method;
import java.lang.reflect.Modifier;
import java.nio.file.Files;
import java.nio.file.Path;
import java.util.ArrayList;
import java.util.List;
import java.util.Set;
import java.util.TreeSet;
import java.util.regex.Matcher;
import java.util.regex.Pattern;

/** The rules of LANGUAGE.md, as far as a look at the source and at the class can tell. */
public final class LanguageTest {
    private static final Check CHECK = new Check("LANGUAGE.md");
    private static final Set<String> LIBRARY = Set.of("Long.bitCount", "Math.max", "Math.min");

    // Rule 6 does not list the first, but the document names it, and so do the shared tests.
    private static final Set<String> THROWN =
        Set.of("ArrayIndexOutOfBoundsException", "IndexOutOfBoundsException", "IllegalArgumentException");

    public static void main(String[] args) throws IOException {
        String code = codeWithoutTexts(Files.readString(Path.of("src/main/java/LoopRegions.java")));
        noWordsOutsideTheRules(code);
        onlyTheLibraryListed(code);
        onlyExceptionsNamed(code);
        sizes();
        CHECK.end();
    }

    private static String codeWithoutTexts(String source) {
        return source.replaceAll("(?s)/\\*.*?\\*/", "").replaceAll("//[^\n]*", "").replaceAll("\"[^\"\n]*\"", "\"\"");
    }

    private static void noWordsOutsideTheRules(String code) {
        CHECK.sentence("rules 1, 2, 3, 6");
        String[] words = {"package", "import", "try", "catch", "finally", "synchronized", "assert", "protected",
            "double", "float", "instanceof", "equals", "hashCode", "toString", "System", "Object", "Thread"};
        for (String word : words) {
            CHECK.due("the word " + word, Pattern.compile("\\b" + word + "\\b").matcher(code).find(), false);
        }
        CHECK.due("a lambda or a method reference", code.contains("->") || code.contains("::"), false);
    }

    private static void onlyTheLibraryListed(String code) {
        CHECK.sentence("rule 4");
        Matcher call = Pattern.compile("\\b(Integer|Long|Math|Arrays|String|StringBuilder|List|ArrayList)\\.\\w+").matcher(code);
        Set<String> used = new TreeSet<>();
        while (call.find()) {
            used.add(call.group());
        }
        used.removeAll(LIBRARY);
        CHECK.due("calls of the library", used, Set.of());
    }

    private static void onlyExceptionsNamed(String code) {
        CHECK.sentence("rule 6");
        Matcher thrown = Pattern.compile("\\bthrow\\b([^;]*);").matcher(code);
        while (thrown.find()) {
            String what = thrown.group(1).trim();
            String name = what.replaceAll("new (\\w+)\\(\"\"\\)", "$1");
            CHECK.due("throw " + what, THROWN.contains(name), true);
        }
    }

    private static void sizes() {
        CHECK.sentence("rules 5, 11");
        List<Class<?>> classes = new ArrayList<>(List.of(LoopRegions.class.getDeclaredClasses()));
        classes.add(LoopRegions.class);
        CHECK.due("at most twelve classes", classes.size() <= 12, true);
        for (Class<?> c : classes) {
            int fields = 0;
            for (Field f : c.getDeclaredFields()) {
                boolean isStatic = Modifier.isStatic(f.getModifiers());
                fields += isStatic ? 0 : 1;
                CHECK.due("a static field is final: " + f, isStatic && !Modifier.isFinal(f.getModifiers()), false);
            }
            CHECK.due("at most twenty fields: " + c, fields <= 20, true);
            for (Method m : c.getDeclaredMethods()) {
                CHECK.due("at most seven parameters: " + m, m.getParameterCount() <= 7, true);
            }
            for (Constructor<?> n : c.getDeclaredConstructors()) {
                CHECK.due("at most seven parameters: " + n, n.getParameterCount() <= 7, true);
            }
        }
    }
}
