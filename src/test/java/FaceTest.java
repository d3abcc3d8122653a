import java.lang.reflect.Constructor;
import java.lang.reflect.Field;
import java.lang.reflect.Method;
import java.lang.reflect.Modifier;
import java.util.Arrays;
import java.util.Set;
import java.util.TreeSet;

/** The public face of the document, and rule 1 of LANGUAGE.md. */
public final class FaceTest {
    private static final Set<String> FACE = new TreeSet<>(Set.of(
            "int chunk(long, int, int) IllegalArgumentException IllegalStateException",
            "void worker(int, boolean) IllegalArgumentException",
            "void speed(int, int) IllegalArgumentException",
            "void filter(int)",
            "int begin(int, int, int, int) IllegalArgumentException IllegalStateException",
            "int run(int) ArithmeticException IllegalArgumentException IllegalStateException",
            "void stop() IllegalStateException",
            "int output(int, int, int) IllegalArgumentException NoSuchElementException",
            "int find(int) NoSuchElementException",
            "int task(boolean, int, int) IllegalArgumentException IllegalStateException NoSuchElementException",
            "int ofWorker(int, int) IllegalArgumentException",
            "int count(int)"));

    private static int wrong = 0;

    public static void main(String[] args) {
        Class<?> type = ReduceCluster.class;
        demand(Modifier.isPublic(type.getModifiers()) && Modifier.isFinal(type.getModifiers()), "public and final");
        demand(type.getSuperclass() == Object.class && type.getInterfaces().length == 0, "no other type");
        Set<String> face = new TreeSet<>();
        Set<String> names = new TreeSet<>();
        for (Method method : type.getDeclaredMethods()) {
            if (Modifier.isPublic(method.getModifiers())) {
                demand(!Modifier.isStatic(method.getModifiers()), method + " is static");
                face.add(text(method));
                names.add(method.getName());
            }
        }
        demand(face.equals(FACE), "the face is " + face);
        for (Method method : type.getDeclaredMethods()) {
            boolean hidden = Modifier.isPrivate(method.getModifiers()) && !names.contains(method.getName());
            demand(hidden || Modifier.isPublic(method.getModifiers()), method + " is neither public nor private");
        }
        for (Field field : type.getDeclaredFields()) {
            demand(Modifier.isPrivate(field.getModifiers()), field + " is not private");
            demand(!Modifier.isStatic(field.getModifiers()) || Modifier.isFinal(field.getModifiers()),
                    field + " is static state");
        }
        Constructor<?>[] constructors = type.getDeclaredConstructors();
        demand(constructors.length == 1 && Modifier.isPublic(constructors[0].getModifiers())
                && constructors[0].getParameterCount() == 0, "one public constructor");
        System.out.println(face.size() + " methods, " + wrong + " wrong");
        System.exit(wrong == 0 ? 0 : 1);
    }

    private static String text(Method method) {
        StringBuilder text = new StringBuilder(method.getReturnType() + " " + method.getName());
        text.append(Arrays.toString(method.getParameterTypes()).replace('[', '(').replace(']', ')'));
        Set<String> thrown = new TreeSet<>();
        for (Class<?> type : method.getExceptionTypes()) {
            thrown.add(type.getSimpleName());
        }
        for (String name : thrown) {
            text.append(' ').append(name);
        }
        return text.toString();
    }

    private static void demand(boolean right, String what) {
        if (!right) {
            wrong++;
            System.out.println("wrong: " + what);
        }
    }
}
