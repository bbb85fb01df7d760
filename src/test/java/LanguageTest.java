import java.io.IOException;
import java.lang.reflect.Field;
import java.lang.reflect.Modifier;
import java.nio.file.Files;
import java.nio.file.Path;
import java.util.List;
import java.util.regex.Matcher;
import java.util.regex.Pattern;

/** What can be seen of LANGUAGE.md's rules in the class and its text. Runs in the project's directory. */
public final class LanguageTest {
    private static final Path SOURCE = Path.of("src/main/java/TongueSwap.java");
    private static final List<String> EXCEPTIONS = List.of("IllegalArgumentException", "NoSuchElementException");
    private static final List<String> LIBRARY = List.of("Integer", "Math");
    private static final String[] NOT_USED = {
        "package ", "->", "::", "\\btry\\b", "\\bcatch\\b", "\\bfinally\\b", "\\bsynchronized\\b", "\\bassert\\b",
        "\\bstatic \\{", "Exact\\b", "\\bdouble\\b", "\\bfloat\\b", "\\bnative\\b", "\\bvolatile\\b", "\\bgetClass\\b", "\\bObject\\b"};
    private static final int MOST_LINES_OF_A_METHOD = 60;
    private static final int MOST_CLASSES = 12;
    private static final int MOST_FIELDS = 20;
    private static final Check check = new Check("language");

    public static void main(String[] args) throws IOException {
        String text = Files.readString(SOURCE);
        // Without comments and written texts, so that their words are not taken for code.
        String code = text.replaceAll("(?s)/\\*.*?\\*/", "").replaceAll("//[^\n]*", "").replaceAll("\"[^\"\n]*\"", "\"\"");
        onlyWhatIsListed(code);
        exceptions(code);
        shortMethods(text);
        fields();
        check.end();
    }

    /** Rules 1, 2, 4, 6 and 13: the import, the library, and words that are not used at all. */
    private static void onlyWhatIsListed(String code) {
        Matcher imports = Pattern.compile("import ([^;]*);").matcher(code);
        while (imports.find()) {
            check.due("import", imports.group(1), "java.util.NoSuchElementException");
        }
        for (String word : NOT_USED) {
            check.due("has " + word, Pattern.compile(word).matcher(code).find(), false);
        }
        Matcher calls = Pattern.compile("\\b([A-Z][a-z]\\w*)\\.[a-z]").matcher(code);
        while (calls.find()) {
            check.due(calls.group(1) + " is listed", LIBRARY.contains(calls.group(1)), true);
        }
        check.due("a sign above 127", code.chars().anyMatch(c -> c > 127), false);
    }

    /** Rule 6: each throw makes a new exception that the document names, with a written text. */
    private static void exceptions(String code) {
        Matcher all = Pattern.compile("\\bthrow\\b").matcher(code);
        Matcher plain = Pattern.compile("\\bthrow new (\\w+)\\(\"\"\\);").matcher(code);
        while (plain.find()) {
            check.due("throws " + plain.group(1), EXCEPTIONS.contains(plain.group(1)), true);
        }
        check.due("throws in another way", all.results().count(), plain.reset().results().count());
    }

    /** Rule 11: methods stay short. A method ends with the brace that stands below its first line. */
    private static void shortMethods(String text) {
        Matcher methods = Pattern.compile("(?m)^( +)[^=;\n*]*\\w\\([^;\n]*\\{$(?:\n(?!\\1\\}).*)*").matcher(text);
        int count = 0;
        while (methods.find()) {
            count++;
            long lines = methods.group().lines().count() + 1;
            String first = methods.group().lines().findFirst().orElse("").strip();
            check.due(first + " has " + lines + " lines", lines <= MOST_LINES_OF_A_METHOD, true);
        }
        check.due("methods were found", count > 60, true);
    }

    /** Rules 3, 5 and 11: how many classes and fields there are, which arrays, and no static state. */
    private static void fields() {
        Class<?>[] inner = TongueSwap.class.getDeclaredClasses();
        check.due("classes", inner.length + 1 <= MOST_CLASSES, true);
        fieldsOf(TongueSwap.class);
        for (Class<?> one : inner) {
            fieldsOf(one);
        }
    }

    private static void fieldsOf(Class<?> one) {
        int own = 0;
        for (Field f : one.getDeclaredFields()) {
            boolean isStatic = Modifier.isStatic(f.getModifiers());
            own += isStatic ? 0 : 1;
            String name = one.getSimpleName() + "." + f.getName();
            check.due(name + " is static and can change", isStatic && !Modifier.isFinal(f.getModifiers()), false);
            check.due(name + " has two dimensions", f.getType().isArray() && f.getType().getComponentType().isArray(), false);
        }
        check.due(one.getSimpleName() + " has few fields", own <= MOST_FIELDS, true);
    }
}
