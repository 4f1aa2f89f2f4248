import java.io.IOException;
import java.lang.reflect.Field;
import java.lang.reflect.Method;
import java.lang.reflect.Modifier;
import java.nio.file.Files;
import java.nio.file.Path;
import java.util.ArrayList;
import java.util.List;
import java.util.regex.Matcher;
import java.util.regex.Pattern;

/** The rules of LANGUAGE.md as far as single words and the compiled class show whether they are kept. */
public final class LanguageTest {
    private static final int MOST_PARAMETERS = 7;
    private static final int MOST_LINES = 60;
    private static final int MOST_CLASSES = 12;
    private static final int MOST_FIELDS = 20;
    private static final List<String> REFUSED = List.of("import", "package", "protected", "try", "catch", "finally",
        "synchronized", "assert", "static {", "->", "::", "equals", "hashCode", "toString", "Exact", "[][]",
        "System.", "Thread", "Random", "float", "double", "Object");
    private static final List<String> THROWN = List.of("IllegalStateException", "IllegalArgumentException",
        "IndexOutOfBoundsException");
    private static final Pattern THROW = Pattern.compile("throw new (\\w+)\\((\"[^\"]*\")?\\);");

    private final List<String> lines = new ArrayList<>();
    private final List<Class<?>> classes = new ArrayList<>();

    private LanguageTest(List<String> source) {
        for (String line : source) {
            if (!line.matches(" *(/\\*\\*|\\*|//).*")) {
                lines.add(line);
            }
        }
        classes.add(ChartKnitter.class);
        classes.addAll(List.of(ChartKnitter.class.getDeclaredClasses()));
    }

    public static void main(String[] args) throws IOException {
        Path source = Path.of("src/main/java/ChartKnitter.java");
        LanguageTest program = new LanguageTest(Files.readAllLines(source));
        Check.sentence("words that the program does without", program::words);
        Check.sentence("6: throw new E() or throw new E(\"a written text\")", program::exceptions);
        Check.sentence("2, 11: classes inside are static, no more than twelve", program::classes);
        Check.sentence("5, 11: static fields are final, and a class has no more than twenty others", program::fields);
        Check.sentence("11: a method takes at most seven parameters", program::parameters);
        Check.sentence("11: methods stay short", program::lengths);
        Check.finish();
    }

    private void words() {
        for (String line : lines) {
            for (String word : REFUSED) {
                String pattern = word.matches("\\w+") ? ".*\\b" + word + "\\b.*" : ".*" + Pattern.quote(word) + ".*";
                Check.due(word + " in: " + line, line.matches(pattern) ? 1 : 0, 0);
            }
        }
    }

    private void exceptions() {
        int throwing = 0;
        for (String line : lines) {
            if (line.matches(".*\\bthrow\\b.*")) {
                Matcher thrown = THROW.matcher(line.trim());
                Check.due(line, thrown.matches() && THROWN.contains(thrown.group(1)) ? 1 : 0, 1);
                throwing++;
            }
        }
        Check.due("there are some", throwing > 0 ? 1 : 0, 1);
    }

    private void classes() {
        Check.due("classes", classes.size() <= MOST_CLASSES ? 1 : 0, 1);
        for (Class<?> inside : ChartKnitter.class.getDeclaredClasses()) {
            int modifiers = inside.getModifiers();
            boolean asDue = Modifier.isStatic(modifiers) && !Modifier.isPublic(modifiers);
            Check.due("static, not public: " + inside, asDue ? 1 : 0, 1);
            Check.due("classes inside " + inside, inside.getDeclaredClasses().length, 0);
        }
    }

    private void fields() {
        for (Class<?> type : classes) {
            int own = 0;
            for (Field field : type.getDeclaredFields()) {
                boolean isStatic = Modifier.isStatic(field.getModifiers());
                own += isStatic ? 0 : 1;
                Check.due("static but not final: " + field,
                    isStatic && !Modifier.isFinal(field.getModifiers()) ? 1 : 0, 0);
            }
            Check.due("fields of " + type, own <= MOST_FIELDS ? 1 : 0, 1);
        }
    }

    private void parameters() {
        for (Class<?> type : classes) {
            for (Method method : type.getDeclaredMethods()) {
                Check.due("parameters of " + method, method.getParameterCount() <= MOST_PARAMETERS ? 1 : 0, 1);
            }
        }
    }

    /** A method begins with a line that is indented once or twice and has both brackets, and ends where } is so. */
    private void lengths() {
        for (int begin = 0; begin < lines.size(); begin++) {
            Matcher head = Pattern.compile("((?: {4}){1,2})\\w.*\\(.*\\).*\\{").matcher(lines.get(begin));
            if (head.matches()) {
                int end = lines.subList(begin, lines.size()).indexOf(head.group(1) + "}");
                Check.due("lines of " + lines.get(begin), end >= 0 && end < MOST_LINES ? 1 : 0, 1);
            }
        }
    }
}
