import java.io.IOException;
import java.lang.reflect.Field;
import java.lang.reflect.Method;
import java.lang.reflect.Modifier;
import java.nio.charset.StandardCharsets;
import java.nio.file.Files;
import java.nio.file.Path;
import java.util.ArrayList;
import java.util.Arrays;
import java.util.List;
import java.util.Set;
import java.util.TreeSet;
import java.util.regex.Matcher;
import java.util.regex.Pattern;

/** Those rules of LANGUAGE.md that can be seen in the text of the class or by looking at its members. */
public final class LanguageTest {
    private static final Path SOURCE = Path.of("src/main/java/TornLog.java");
    private static final Set<String> IMPORTS = Set.of("java.util.NoSuchElementException", "java.util.ArrayList",
            "java.util.List", "java.util.Arrays", "java.util.Iterator");
    private static final String EXCEPTION = "(IllegalStateException|IllegalArgumentException"
            + "|IndexOutOfBoundsException|ArithmeticException|UnsupportedOperationException|NoSuchElementException"
            + "|RuntimeException)";
    private static final String LIBRARY = "(Math|Integer|Long)\\.\\w+(?<!Exact)\\("
            + "|System\\.arraycopy\\(|Arrays\\.(copyOf|copyOfRange|fill)\\(|List\\.of\\(";
    private static final Set<String> STATIC_TYPES = Set.of("int", "long", "boolean", "char", "String", "int[]",
            "long[]", "char[]", "byte[]");
    private static final int MOST_PARAMETERS = 7;
    private static final int MOST_LINES = 60;
    private static final int MOST_CLASSES = 12;
    private static final int MOST_FIELDS = 20;

    private final Check check = new Check();
    /** The text without comments and without what stands in strings. */
    private final String code;
    private final List<Class<?>> classes = new ArrayList<>();

    private LanguageTest(String text) {
        code = text.replaceAll("(?s)/\\*.*?\\*/", "").replaceAll("//.*", "").replaceAll("\"[^\"\n]*\"", "\"\"");
        classes.add(TornLog.class);
        classes.addAll(Arrays.asList(TornLog.class.getDeclaredClasses()));
    }

    public static void main(String[] args) throws IOException {
        LanguageTest test = new LanguageTest(Files.readString(SOURCE, StandardCharsets.UTF_8));
        test.rule1();
        test.rules2And6And10();
        test.rule4();
        test.rule5();
        test.rule6();
        test.rule11();
        test.check.finish();
    }

    private void none(String what, Set<String> found) {
        check.same(what, found.toString(), "[]");
    }

    /** All that a pattern finds, but for what another one allows. */
    private Set<String> found(String pattern, String allowed) {
        Set<String> found = new TreeSet<>();
        for (Matcher matcher = Pattern.compile(pattern).matcher(code); matcher.find(); ) {
            if (!matcher.group().matches(allowed)) {
                found.add(matcher.group());
            }
        }
        return found;
    }

    private void rule1() {
        check.same("rule 1: a package line", "" + code.contains("package "), "false");
        Set<String> face = new TreeSet<>();
        for (Method method : TornLog.class.getDeclaredMethods()) {
            if (Modifier.isPublic(method.getModifiers())) {
                face.add(method.getName());
            }
        }
        Set<String> wrong = new TreeSet<>();
        for (Class<?> each : classes) {
            for (Method method : each.getDeclaredMethods()) {
                if (!Modifier.isPublic(method.getModifiers()) && face.contains(method.getName())) {
                    wrong.add(each.getSimpleName() + "." + method.getName());
                }
            }
            int modifiers = each.getModifiers();
            if (each != TornLog.class && (!Modifier.isStatic(modifiers) || Modifier.isPublic(modifiers)
                    || Modifier.isProtected(modifiers))) {
                wrong.add("class " + each.getSimpleName());
            }
        }
        none("rule 1: methods that bear a public one's name, classes that others see", wrong);
    }

    private void rules2And6And10() {
        none("rules 2, 6: words and signs",
                found("->|::|\\b(finally|synchronized|assert|getMessage|hashCode)\\b", ""));
        none("rule 10: texts joined by +", found("\"\"\\s*\\+|\\+\\s*\"\"", ""));
    }

    private void rule4() {
        none("rule 4: imports", found("(?<=import )[^;]*", String.join("|", IMPORTS).replace(".", "\\.")));
        none("rule 4: the library", found("\\b[A-Z][a-z]\\w*\\.\\w+\\(?", LIBRARY));
        none("rule 4: names of packages", found("(?<!import )\\bjavax?\\.[\\w.]+", ""));
    }

    private void rule5() {
        Set<String> wrong = new TreeSet<>();
        for (Class<?> each : classes) {
            for (Field field : each.getDeclaredFields()) {
                boolean right = Modifier.isFinal(field.getModifiers())
                        && STATIC_TYPES.contains(field.getType().getSimpleName());
                if (Modifier.isStatic(field.getModifiers()) && !right) {
                    wrong.add(field.getName());
                }
            }
        }
        none("rule 5: static fields", wrong);
        none("rule 5: static blocks", found("static\\s*\\{", ""));
    }

    private void rule6() {
        none("rule 6: throws", found("\\bthrow\\b[^;]*;", "throw new " + EXCEPTION + "\\((\"\")?\\);"));
    }

    private void rule11() {
        Set<String> wrong = new TreeSet<>();
        for (Class<?> each : classes) {
            for (Method method : each.getDeclaredMethods()) {
                if (method.getParameterCount() > MOST_PARAMETERS) {
                    wrong.add("parameters of " + method.getName());
                }
            }
            long fields = Arrays.stream(each.getDeclaredFields())
                    .filter(field -> !Modifier.isStatic(field.getModifiers())).count();
            if (fields > MOST_FIELDS) {
                wrong.add("fields of " + each.getSimpleName());
            }
        }
        if (classes.size() > MOST_CLASSES) {
            wrong.add("classes");
        }
        none("rule 11: too many", wrong);
        check.same("rule 11: the longest method is short", "" + (longestMethod() <= MOST_LINES), "true");
    }

    /** From a line that begins a method or constructor to the brace below its first letter. */
    private int longestMethod() {
        int longest = 0;
        String body = "(?m)^( {4}| {8})(?! )(?!.*\\bclass\\b)[^\\n;]*(\\n\\s+throws [^\\n]*)?\\{\\n(?s:.*?)^\\1\\}$";
        for (Matcher matcher = Pattern.compile(body).matcher(code); matcher.find(); ) {
            longest = Math.max(longest, matcher.group().split("\n").length);
        }
        check.same("rule 11: methods were found", "" + (longest > 5), "true");
        return longest;
    }
}
