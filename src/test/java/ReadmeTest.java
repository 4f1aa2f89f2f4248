import java.io.IOException;
import java.lang.reflect.InvocationTargetException;
import java.lang.reflect.Method;
import java.lang.reflect.Modifier;
import java.nio.file.Files;
import java.nio.file.Path;
import java.util.ArrayList;
import java.util.List;
import java.util.regex.Matcher;
import java.util.regex.Pattern;

/** README.md: its example answers what it says, and its table has every call with what that throws. */
public final class ReadmeTest {
    private static final Pattern CALL = Pattern.compile("x\\.(\\w+)\\((.*)\\); *// (-?\\d+|\\w+Exception)?.*");
    private static final Pattern ENTRY = Pattern.compile("\\| `(\\w+)\\((.*?)\\)` \\|(.*)\\|(.*)\\|");
    private static final Pattern THROWN = Pattern.compile("`(\\w+Exception)`");

    private final List<String> lines;

    private ReadmeTest(List<String> lines) {
        this.lines = lines;
    }

    public static void main(String[] args) throws IOException {
        ReadmeTest readme = new ReadmeTest(Files.readAllLines(Path.of("README.md")));
        Check.sentence("README.md says how to use the class: its example", readme::example);
        Check.sentence("README.md says how to use the class: its calls, and what they throw", readme::calls);
        Check.finish();
    }

    private void example() {
        ChartKnitter x = new ChartKnitter();
        List<String> used = new ArrayList<>();
        for (String line : lines) {
            Matcher call = CALL.matcher(line);
            if (call.matches()) {
                String want = call.group(3) == null ? "null" : call.group(3);
                String got = answer(x, method(call.group(1)), call.group(2));
                Check.same(line, List.of(got), List.of(want));
                used.add(call.group(1));
            }
        }
        for (Method method : ChartKnitter.class.getDeclaredMethods()) {
            if (isOfFace(method)) {
                Check.due("the example uses " + method.getName(), used.contains(method.getName()) ? 1 : 0, 1);
            }
        }
    }

    private void calls() {
        List<String> told = new ArrayList<>();
        for (String line : lines) {
            Matcher entry = ENTRY.matcher(line);
            if (entry.matches() && !entry.group(1).equals("ChartKnitter")) {
                Method method = method(entry.group(1));
                int arguments = entry.group(2).isEmpty() ? 0 : entry.group(2).split(", ").length;
                Check.due("arguments of " + method, arguments, method.getParameterCount());
                Check.same("what " + method + " throws", thrown(entry.group(4)), FaceTest.thrown(method));
                told.add(method.getName());
            }
        }
        for (Method method : ChartKnitter.class.getDeclaredMethods()) {
            if (isOfFace(method)) {
                Check.due("the table has " + method.getName(), told.contains(method.getName()) ? 1 : 0, 1);
            }
        }
    }

    private static boolean isOfFace(Method method) {
        return Modifier.isPublic(method.getModifiers());
    }

    private static Method method(String name) {
        for (Method method : ChartKnitter.class.getDeclaredMethods()) {
            if (isOfFace(method) && method.getName().equals(name)) {
                return method;
            }
        }
        throw new IllegalStateException("README.md has a call that the class has not: " + name);
    }

    private static String answer(ChartKnitter x, Method method, String arguments) {
        String[] words = arguments.isEmpty() ? new String[0] : arguments.split(", ");
        Object[] values = new Object[words.length];
        for (int i = 0; i < words.length; i++) {
            boolean isLong = method.getParameterTypes()[i] == long.class;
            if (isLong) {
                values[i] = Long.decode(words[i].replace("L", ""));
            } else {
                values[i] = Integer.decode(words[i]);
            }
        }
        try {
            return "" + method.invoke(x, values);
        } catch (InvocationTargetException e) {
            return e.getCause().getClass().getSimpleName();
        } catch (IllegalAccessException e) {
            throw new IllegalStateException(e);
        }
    }

    private static List<String> thrown(String words) {
        List<String> names = new ArrayList<>();
        Matcher name = THROWN.matcher(words);
        while (name.find()) {
            names.add(name.group(1));
        }
        return names;
    }
}
