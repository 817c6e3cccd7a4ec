import java.io.IOException;
import java.lang.reflect.InvocationTargetException;
import java.lang.reflect.Method;
import java.lang.reflect.Modifier;
import java.nio.charset.StandardCharsets;
import java.nio.file.Files;
import java.nio.file.Path;
import java.util.Set;
import java.util.TreeSet;
import java.util.regex.Matcher;
import java.util.regex.Pattern;

/** The calls of README.md answer what stands behind them there, and every call of the class is among them. */
public final class ReadmeTest {
    private static final Pattern EXAMPLE = Pattern.compile("```java\n(.*?)```", Pattern.DOTALL);
    private static final Pattern CALL = Pattern.compile("log\\.(\\w+)\\(([^)]*)\\);\\s*// (\\w+)");
    private static final Pattern ROW = Pattern.compile("(?m)^\\| `(\\w+)\\(");

    private final Check check = new Check();
    private final TornLog log = new TornLog();
    private final Set<String> called = new TreeSet<>();

    public static void main(String[] args) throws IOException {
        new ReadmeTest().go(Files.readString(Path.of("README.md"), StandardCharsets.UTF_8));
    }

    private void go(String readme) {
        Matcher example = EXAMPLE.matcher(readme);
        check.same("README.md has an example", "" + example.find(), "true");
        example.group(1).lines().filter(line -> line.contains("log.")).forEach(this::makeCall);
        Set<String> face = new TreeSet<>();
        for (Method method : TornLog.class.getDeclaredMethods()) {
            if (Modifier.isPublic(method.getModifiers())) {
                face.add(method.getName());
            }
        }
        check.same("calls of the example", called.toString(), face.toString());
        Set<String> told = new TreeSet<>();
        ROW.matcher(readme).results().forEach(row -> told.add(row.group(1)));
        check.same("calls of the table", told.toString(), face.toString());
        check.finish();
    }

    private void makeCall(String line) {
        Matcher call = CALL.matcher(line);
        check.same(line + " has an answer", "" + call.find(), "true");
        called.add(call.group(1));
        check.same(line.trim(), answer(call.group(1), call.group(2)), decoded(call.group(3)));
    }

    private static String decoded(String due) {
        return Character.isDigit(due.charAt(0)) ? "" + Long.decode(due) : due;
    }

    private String answer(String name, String arguments) {
        Object[] numbers = Pattern.compile("\\w+").matcher(arguments).results()
                .map(number -> Integer.decode(number.group())).toArray();
        try {
            for (Method method : TornLog.class.getDeclaredMethods()) {
                if (method.getName().equals(name)) {
                    return "" + method.invoke(log, numbers);
                }
            }
            return "no such call";
        } catch (InvocationTargetException e) {
            return e.getCause().getClass().getSimpleName();
        } catch (IllegalAccessException e) {
            return "no such call of the face";
        }
    }
}
