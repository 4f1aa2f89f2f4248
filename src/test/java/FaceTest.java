import java.lang.reflect.Constructor;
import java.lang.reflect.Field;
import java.lang.reflect.Method;
import java.lang.reflect.Modifier;
import java.util.ArrayList;
import java.util.Arrays;
import java.util.List;
import java.util.TreeSet;

/** "The public face": the class has its members, and no others that can be seen from outside. */
public final class FaceTest {
    private static final String STATE = "IllegalStateException";
    private static final String ARGUMENT = "IllegalArgumentException";
    private static final String INDEX = "IndexOutOfBoundsException";
    private static final List<String> FACE = List.of(
        "int bed(int) []", "void castOn(int) [" + ARGUMENT + "]", "int cross(int,int) [" + INDEX + "]",
        "int knit(int) [" + STATE + ", " + ARGUMENT + "]", "int live(int,int) []",
        "int loop(int,int) [" + INDEX + ", " + ARGUMENT + "]", "int number(int) []",
        "int parent(int,int) [" + INDEX + "]", "int place() []",
        "int program(int,int) [" + INDEX + ", " + ARGUMENT + "]", "int ravel() []", "int side(int) []",
        "int wipe() []", "int write(long) []");

    private static final Class<?> SEEN = ChartKnitter.class;

    public static void main(String[] args) {
        Check.sentence("public final class ChartKnitter", FaceTest::type);
        Check.sentence("public static final int NONE = -1", FaceTest::constant);
        Check.sentence("public ChartKnitter()", FaceTest::constructor);
        Check.sentence("the public methods, with what they throw", FaceTest::methods);
        Check.finish();
    }

    /** What a method is declared to throw, in its order. */
    static List<String> thrown(Method method) {
        List<String> names = new ArrayList<>();
        for (Class<?> type : method.getExceptionTypes()) {
            names.add(type.getSimpleName());
        }
        return names;
    }

    private static void type() {
        int publicFinal = Modifier.PUBLIC | Modifier.FINAL;
        Check.due("public final", SEEN.getModifiers() & publicFinal, publicFinal);
        Check.due("in no package", SEEN.getPackageName().length(), 0);
        Check.due("of no other class", SEEN.getSuperclass() == Object.class ? 1 : 0, 1);
        Check.due("interfaces", SEEN.getInterfaces().length, 0);
    }

    private static void constant() {
        Check.due("NONE", ChartKnitter.NONE, -1);
        for (Field field : SEEN.getDeclaredFields()) {
            if (field.getName().equals("NONE")) {
                int asDue = Modifier.PUBLIC | Modifier.STATIC | Modifier.FINAL;
                Check.due("modifiers of NONE", field.getModifiers(), asDue);
                Check.due("an int", field.getType() == int.class ? 1 : 0, 1);
            } else {
                Check.due("private " + field, Modifier.isPrivate(field.getModifiers()) ? 1 : 0, 1);
            }
        }
    }

    private static void constructor() {
        Constructor<?>[] constructors = SEEN.getDeclaredConstructors();
        Check.due("constructors", constructors.length, 1);
        Check.due("its arguments", constructors[0].getParameterCount(), 0);
        Check.due("public", Modifier.isPublic(constructors[0].getModifiers()) ? 1 : 0, 1);
        Check.due("what it throws", constructors[0].getExceptionTypes().length, 0);
    }

    private static void methods() {
        TreeSet<String> shapes = new TreeSet<>();
        TreeSet<String> names = new TreeSet<>();
        for (Method method : SEEN.getDeclaredMethods()) {
            if (!Modifier.isPrivate(method.getModifiers())) {
                Check.due("public " + method, Modifier.isPublic(method.getModifiers()) ? 1 : 0, 1);
                Check.due("not static " + method, Modifier.isStatic(method.getModifiers()) ? 1 : 0, 0);
                shapes.add(shape(method));
                names.add(method.getName());
            }
        }
        Check.same("methods", List.copyOf(shapes), List.copyOf(new TreeSet<>(FACE)));
        for (Method method : SEEN.getDeclaredMethods()) {
            if (Modifier.isPrivate(method.getModifiers())) {
                Check.due("private method with a public name: " + method, names.contains(method.getName()) ? 1 : 0, 0);
            }
        }
    }

    private static String shape(Method method) {
        String[] types = Arrays.stream(method.getParameterTypes()).map(Class::getName).toArray(String[]::new);
        String call = method.getName() + "(" + String.join(",", types) + ")";
        return method.getReturnType().getName() + " " + call + " " + thrown(method);
    }
}
