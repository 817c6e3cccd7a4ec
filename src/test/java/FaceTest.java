import java.lang.reflect.Constructor;
import java.lang.reflect.Field;
import java.lang.reflect.Method;
import java.lang.reflect.Modifier;
import java.util.Arrays;
import java.util.List;
import java.util.Set;
import java.util.TreeSet;

/** The class has the public face of the document, and no member beside it that others could see. */
public final class FaceTest {
    private static final List<String> FACE = List.of(
            "int feed(int, int, int, int, int) IllegalStateException IndexOutOfBoundsException",
            "int fill(int, int) IllegalArgumentException IllegalStateException IndexOutOfBoundsException",
            "int end(int) IllegalArgumentException IllegalStateException",
            "int append(int, int, int) IllegalArgumentException IllegalStateException IndexOutOfBoundsException",
            "int retire(int) IllegalArgumentException IllegalStateException NoSuchElementException",
            "int cut(int, int) IllegalArgumentException",
            "int mount()",
            "int record(int, int) IllegalArgumentException IllegalStateException NoSuchElementException",
            "long word(int, int) IllegalStateException NoSuchElementException IndexOutOfBoundsException",
            "int count(int) IllegalArgumentException IllegalStateException");

    public static void main(String[] args) {
        Check check = new Check();
        Set<String> seen = new TreeSet<>();
        for (Method method : TornLog.class.getDeclaredMethods()) {
            if (!Modifier.isPrivate(method.getModifiers()) && !method.isSynthetic()) {
                check.same(method.getName() + " is", Modifier.toString(method.getModifiers()), "public");
                seen.add(shape(method));
            }
        }
        check.same("methods", seen.toString(), new TreeSet<>(FACE).toString());
        for (Field field : TornLog.class.getDeclaredFields()) {
            check.same(field.getName() + " is private", "" + Modifier.isPrivate(field.getModifiers()), "true");
        }
        Constructor<?>[] constructors = TornLog.class.getDeclaredConstructors();
        check.same("constructors", Arrays.toString(constructors), "[public TornLog()]");
        check.same("class", Modifier.toString(TornLog.class.getModifiers()), "public final");
        check.finish();
    }

    private static String shape(Method method) {
        StringBuilder text = new StringBuilder();
        text.append(method.getReturnType()).append(' ').append(method.getName());
        text.append(Arrays.toString(method.getParameterTypes()).replace('[', '(').replace(']', ')'));
        for (Class<?> thrown : method.getExceptionTypes()) {
            text.append(' ').append(thrown.getSimpleName());
        }
        return text.toString();
    }
}
