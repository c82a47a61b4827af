import java.lang.reflect.Constructor;
import java.lang.reflect.Field;
import java.lang.reflect.Member;
import java.lang.reflect.Method;
import java.lang.reflect.Modifier;
import java.util.Arrays;
import java.util.List;
import java.util.TreeSet;

/** The class has the document's face, and no other member that is not private. */
public final class FaceTest {
    private static final List<String> FACE = List.of(
        "NONE",
        "ShippedLog()",
        "up(int) int throws IndexOutOfBoundsException, IllegalStateException",
        "crash(int, int) int throws IndexOutOfBoundsException, IllegalArgumentException, IllegalStateException",
        "promote(int) int throws IndexOutOfBoundsException, IllegalStateException, UnsupportedOperationException",
        "follow(int, int) void throws IndexOutOfBoundsException, IllegalStateException, IllegalArgumentException",
        "rewind(int, int) int throws IndexOutOfBoundsException, IllegalStateException",
        "put(int, int, int) int throws IndexOutOfBoundsException, IllegalStateException, IllegalArgumentException, UnsupportedOperationException",
        "commit(int) boolean throws IndexOutOfBoundsException, IllegalStateException, UnsupportedOperationException",
        "standby(int, int) int throws IndexOutOfBoundsException, IllegalStateException, IllegalArgumentException",
        "send(int, int) int throws IndexOutOfBoundsException, IllegalStateException, UnsupportedOperationException, NoSuchElementException",
        "deliver(int, int) int throws IndexOutOfBoundsException, NoSuchElementException, UnsupportedOperationException",
        "drop(int, int) int throws IndexOutOfBoundsException, NoSuchElementException",
        "apply(int, int) int throws IndexOutOfBoundsException, IllegalArgumentException, IllegalStateException",
        "get(int, int) int throws IndexOutOfBoundsException, IllegalStateException",
        "byteAt(int, int, int) int throws IndexOutOfBoundsException",
        "node(int, int) int throws IndexOutOfBoundsException",
        "link(int, int, int) int throws IndexOutOfBoundsException, IllegalStateException");

    public static void main(String[] args) {
        Check check = new Check();
        TreeSet<String> found = new TreeSet<>();
        TreeSet<String> privateNames = new TreeSet<>();
        TreeSet<String> publicNames = new TreeSet<>();
        for (Field field : ShippedLog.class.getDeclaredFields()) {
            if (isOpen(field)) {
                found.add(field.getName());
            }
        }
        for (Constructor<?> constructor : ShippedLog.class.getDeclaredConstructors()) {
            if (isOpen(constructor)) {
                found.add("ShippedLog" + names(constructor.getParameterTypes(), "(", ")"));
            }
        }
        for (Method method : ShippedLog.class.getDeclaredMethods()) {
            if (isOpen(method)) {
                found.add(method.getName() + names(method.getParameterTypes(), "(", ")") + " "
                    + method.getReturnType().getSimpleName() + names(method.getExceptionTypes(), " throws ", ""));
                publicNames.add(method.getName());
            } else {
                privateNames.add(method.getName());
            }
        }
        if (!found.equals(new TreeSet<>(FACE))) {
            check.report("the face is " + found);
        }
        privateNames.retainAll(publicNames);
        check.due("private methods with a public one's name", privateNames.size(), 0);
        check.due("the class is public and final", ShippedLog.class.getModifiers(), Modifier.PUBLIC | Modifier.FINAL);
        check.end();
    }

    private static boolean isOpen(Member member) {
        return !Modifier.isPrivate(member.getModifiers()) && !member.isSynthetic();
    }

    private static String names(Class<?>[] types, String before, String after) {
        String[] names = Arrays.stream(types).map(Class::getSimpleName).toArray(String[]::new);
        return before + String.join(", ", names) + after;
    }
}
