import java.lang.reflect.Constructor;
import java.lang.reflect.Field;
import java.lang.reflect.Method;
import java.lang.reflect.Modifier;
import java.util.Arrays;
import java.util.List;
import java.util.TreeSet;

/** The class has the members of the document's face and no others that can be seen from outside. */
public final class FaceTest {
    private static final List<String> FACE = List.of(
        "int bed(int)", "void castOn(int)", "int cross(int,int)", "int knit(int)", "int live(int,int)",
        "int loop(int,int)", "int number(int)", "int parent(int,int)", "int place()", "int program(int,int)",
        "int ravel()", "int side(int)", "int wipe()", "int write(long)");

    public static void main(String[] args) {
        Class<?> face = ChartKnitter.class;
        int publicFinal = Modifier.PUBLIC | Modifier.FINAL;
        Check.due("public final", face.getModifiers() & publicFinal, publicFinal);
        TreeSet<String> methods = new TreeSet<>();
        TreeSet<String> names = new TreeSet<>();
        for (Method method : face.getDeclaredMethods()) {
            if (!Modifier.isPrivate(method.getModifiers())) {
                Check.due("public " + method, Modifier.isPublic(method.getModifiers()) ? 1 : 0, 1);
                methods.add(shape(method));
                names.add(method.getName());
            }
        }
        Check.due("methods " + methods, methods.equals(new TreeSet<>(FACE)) ? 1 : 0, 1);
        for (Method method : face.getDeclaredMethods()) {
            if (Modifier.isPrivate(method.getModifiers())) {
                Check.due("private method with a public name: " + method, names.contains(method.getName()) ? 1 : 0, 0);
            }
        }
        for (Field field : face.getDeclaredFields()) {
            boolean constant = field.getName().equals("NONE");
            Check.due("visibility of " + field, Modifier.isPrivate(field.getModifiers()) ? 1 : 0, constant ? 0 : 1);
        }
        Constructor<?>[] constructors = face.getDeclaredConstructors();
        Check.due("constructors", constructors.length, 1);
        Check.due("arguments of the constructor", constructors[0].getParameterCount(), 0);
        Check.due("NONE", ChartKnitter.NONE, -1);
        Check.finish();
    }

    private static String shape(Method method) {
        String[] types = Arrays.stream(method.getParameterTypes()).map(Class::getName).toArray(String[]::new);
        return method.getReturnType().getName() + " " + method.getName() + "(" + String.join(",", types) + ")";
    }
}
