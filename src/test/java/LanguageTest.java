import java.io.IOException;
import java.lang.reflect.Field;
import java.lang.reflect.Method;
import java.lang.reflect.Modifier;
import java.nio.file.Files;
import java.nio.file.Path;
import java.util.Set;

/** Some of the rules of LANGUAGE.md: those that can be seen line by line or by reflection. */
public final class LanguageTest {
    private static final String PROGRAM = "src/main/java/HardwareTaskQueue.java";
    private static final Set<String> IMPORTS = Set.of("import java.util.Arrays;",
            "import java.util.ArrayList;", "import java.util.List;");
    private static final String FORBIDDEN = ".*(\\b(try|catch|finally|synchronized|assert|package"
            + "|protected|double|float|Random|Thread|equals|hashCode|toString|while \\(true)\\b"
            + "|->|::|Exact\\b|System\\.(?!arraycopy)).*";
    private static final int LONGEST_METHOD = 60;
    private static final int MOST_PARAMETERS = 7;
    private static final int MOST_FIELDS = 20;
    private static final int MOST_CLASSES = 12;

    public static void main(String[] args) throws IOException {
        lines();
        Class<?> type = HardwareTaskQueue.class;
        Class<?>[] inside = type.getDeclaredClasses();
        Check.equal("rule 11, classes", inside.length + 1 <= MOST_CLASSES, true);
        members(type);
        for (Class<?> inner : inside) {
            int modifiers = inner.getModifiers();
            Check.equal("rule 1, " + inner + " is static and not for others",
                    Modifier.isStatic(modifiers) && !Modifier.isPublic(modifiers), true);
            members(inner);
        }
        Check.end();
    }

    private static void members(Class<?> type) {
        int fields = 0;
        for (Field field : type.getDeclaredFields()) {
            if (Modifier.isStatic(field.getModifiers())) {
                Check.equal("rule 5, " + field + " is final",
                        Modifier.isFinal(field.getModifiers()), true);
            } else {
                fields++;
            }
        }
        Check.equal("rule 11, fields of " + type, fields <= MOST_FIELDS, true);
        for (Method method : type.getDeclaredMethods()) {
            Check.equal("rule 11, parameters of " + method,
                    method.getParameterCount() <= MOST_PARAMETERS, true);
        }
    }

    private static void lines() throws IOException {
        int number = 0;
        int opened = 0;
        for (String line : Files.readAllLines(Path.of(PROGRAM))) {
            number++;
            String where = "line " + number + ": " + line;
            String code = line.strip();
            if (code.startsWith("*") || code.startsWith("/*")) {
                continue;
            }
            Check.equal("a forbidden word in " + where, line.matches(FORBIDDEN), false);
            Check.equal("a sign beyond 127 in " + where,
                    line.chars().anyMatch(sign -> sign > 127), false);
            if (code.startsWith("import")) {
                Check.equal("allowed: " + where, IMPORTS.contains(code), true);
            }
            if (line.matches(" {4}( {4})?(public |private |static )*\\w+(\\[\\])? ?\\w*\\(.*")) {
                opened = number;
            }
            if (line.matches(" {4}( {4})?\\}") && opened > 0) {
                Check.equal("a long method ends at " + where,
                        number - opened <= LONGEST_METHOD, true);
            }
        }
    }
}
