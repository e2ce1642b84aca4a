import java.lang.reflect.Constructor;
import java.lang.reflect.Field;
import java.lang.reflect.Method;
import java.lang.reflect.Modifier;
import java.util.Arrays;
import java.util.TreeSet;

/** "The public face": the class, its constructor and its methods as they stand there, and no other. */
public final class FaceTest {
    private static final Checks CHECKS = new Checks();
    private static final String[] FACE = {
        "int edge(int, int, int, int)",
        "int point(int, int)",
        "void clear()",
        "int lay()",
        "int nodes()",
        "int node(int, int)",
        "int find(int, int)",
        "int pieces()",
        "int piece(int, int)",
        "int way(int)",
        "int wayNode(int, int)"
    };

    public static void main(String[] args) {
        Class<?> face = HotCells.class;
        CHECKS.holds("the class is public and final", face.getModifiers() == (Modifier.PUBLIC | Modifier.FINAL));
        CHECKS.holds("the class has no package", face.getPackageName().isEmpty());
        CHECKS.holds("the class extends nothing", face.getSuperclass() == Object.class);
        CHECKS.due("interfaces", face.getInterfaces().length, 0);
        CHECKS.due("constructors", face.getDeclaredConstructors().length, 1);
        for (Constructor<?> constructor : face.getDeclaredConstructors()) {
            CHECKS.holds("public HotCells()", constructor.toString().equals("public HotCells()"));
        }
        methods(face);
        fields(face);
        for (Class<?> inside : face.getDeclaredClasses()) {
            CHECKS.holds(inside + " is private and static",
                (inside.getModifiers() & (Modifier.PRIVATE | Modifier.STATIC)) == (Modifier.PRIVATE | Modifier.STATIC));
        }
        CHECKS.end();
    }

    private static void methods(Class<?> face) {
        TreeSet<String> due = new TreeSet<>(Arrays.asList(FACE));
        TreeSet<String> open = new TreeSet<>();
        TreeSet<String> names = new TreeSet<>();
        for (Method method : face.getDeclaredMethods()) {
            if (Modifier.isPublic(method.getModifiers())) {
                CHECKS.holds(method + " is public alone", method.getModifiers() == Modifier.PUBLIC);
                open.add(told(method));
                names.add(method.getName());
            }
        }
        CHECKS.holds("the face is " + due + ", not " + open, open.equals(due));
        for (Method method : face.getDeclaredMethods()) {
            if (!Modifier.isPublic(method.getModifiers())) {
                CHECKS.holds(method + " is private", Modifier.isPrivate(method.getModifiers()));
                CHECKS.holds(method + " has a name of its own", !names.contains(method.getName()));
            }
            CHECKS.holds(method + " takes at most seven parameters", method.getParameterCount() <= 7);
        }
    }

    private static String told(Method method) {
        StringBuilder told = new StringBuilder(method.getReturnType() + " " + method.getName() + "(");
        for (Class<?> parameter : method.getParameterTypes()) {
            told.append(told.charAt(told.length() - 1) == '(' ? "" : ", ").append(parameter);
        }
        return told.append(')').toString();
    }

    private static void fields(Class<?> face) {
        for (Field field : face.getDeclaredFields()) {
            CHECKS.holds(field + " is private", Modifier.isPrivate(field.getModifiers()));
            CHECKS.holds(field + " is no static one that changes",
                !Modifier.isStatic(field.getModifiers()) || Modifier.isFinal(field.getModifiers()));
        }
    }
}
