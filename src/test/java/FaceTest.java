import java.lang.reflect.Field;
import java.lang.reflect.Method;
import java.lang.reflect.Modifier;
import java.util.Arrays;
import java.util.TreeSet;

/** The face is that of the document, and no class has state that objects share. */
public final class FaceTest {
    private static final String[] FACE = {
        "activity(int) double IndexOutOfBoundsException",
        "clear() int",
        "clock(int) int IllegalArgumentException IllegalStateException",
        "compile() int IllegalArgumentException UnsupportedOperationException"
            + " IllegalStateException NoSuchElementException ArithmeticException",
        "count(int) int IllegalArgumentException",
        "depends(int) int IndexOutOfBoundsException",
        "set(int int) int IndexOutOfBoundsException UnsupportedOperationException",
        "signal(int int) int IllegalArgumentException IndexOutOfBoundsException",
        "text(long) int IllegalArgumentException IllegalStateException",
        "value(int) int IndexOutOfBoundsException",
        "where() int"
    };

    public static void main(String[] args) {
        Due due = new Due("FaceTest");
        TreeSet<String> found = new TreeSet<>();
        TreeSet<String> names = new TreeSet<>();
        for (Method method : LowForge.class.getDeclaredMethods()) {
            if (!Modifier.isPrivate(method.getModifiers()) && !method.isSynthetic()) {
                found.add(faceOf(method));
                names.add(method.getName());
            }
        }
        due.same("the face " + found, found.equals(new TreeSet<>(Arrays.asList(FACE))) ? 1 : 0, 1);
        due.same("constructors", LowForge.class.getConstructors().length, 1);
        look(due, LowForge.class, names);
        for (Class<?> inside : LowForge.class.getDeclaredClasses()) {
            due.same(inside + " is static", Modifier.isStatic(inside.getModifiers()) ? 1 : 0, 1);
            look(due, inside, names);
        }
        due.end();
    }

    private static String faceOf(Method method) {
        StringBuilder face = new StringBuilder(method.getName()).append('(');
        for (Class<?> parameter : method.getParameterTypes()) {
            face.append(face.charAt(face.length() - 1) == '(' ? "" : " ").append(parameter);
        }
        face.append(") ").append(method.getReturnType());
        for (Class<?> thrown : method.getExceptionTypes()) {
            face.append(' ').append(thrown.getSimpleName());
        }
        return face.toString();
    }

    private static void look(Due due, Class<?> type, TreeSet<String> names) {
        for (Field field : type.getDeclaredFields()) {
            boolean shared = Modifier.isStatic(field.getModifiers());
            boolean fixed = Modifier.isFinal(field.getModifiers()) && field.getType() == int.class;
            due.same(field + " is a constant", shared && !fixed ? 1 : 0, 0);
            if (type == LowForge.class) {
                due.same(field + " is private", Modifier.isPrivate(field.getModifiers()) ? 1 : 0, 1);
            }
        }
        for (Method method : type.getDeclaredMethods()) {
            boolean hides = Modifier.isPrivate(method.getModifiers())
                    && names.contains(method.getName());
            due.same(method + " hides a public one", hides ? 1 : 0, 0);
        }
    }
}
