import java.io.ByteArrayOutputStream;
import java.io.IOException;
import java.io.PrintStream;
import java.lang.reflect.Method;
import java.lang.reflect.Modifier;
import java.net.URL;
import java.net.URLClassLoader;
import java.nio.file.Files;
import java.nio.file.Path;
import java.util.ArrayList;
import java.util.List;
import java.util.regex.Matcher;
import java.util.regex.Pattern;
import javax.tools.ToolProvider;

/** README.md tells the truth: its example prints what it says, and its table has each call. */
public final class ReadmeTest {
    private static final Pattern EXCEPTION = Pattern.compile("`(\\w+Exception)`");

    public static void main(String[] args) throws IOException, ReflectiveOperationException {
        String readme = Files.readString(Path.of("README.md"));
        example(block(readme, "```java\n"), block(readme, "It prints:\n\n```text\n"));
        table(readme);
        constants(readme);
        everyTest(readme);
        Check.end();
    }

    private static String block(String readme, String opening) {
        int from = readme.indexOf(opening);
        Check.equal("README.md has a block after " + opening.strip(), from >= 0, true);
        String rest = readme.substring(Math.max(0, from + opening.length()));
        return rest.substring(0, Math.max(0, rest.indexOf("```")));
    }

    private static void example(String program, String due)
            throws IOException, ReflectiveOperationException {
        Path directory = Path.of(System.getProperty("java.class.path")).resolve("readme");
        Files.createDirectories(directory);
        Path file = Files.writeString(directory.resolve("Example.java"), program);
        int answer = ToolProvider.getSystemJavaCompiler().run(null, null, null, "-d",
                directory.toString(), "-cp", System.getProperty("java.class.path"), file.toString());
        Check.equal("compiling the example", answer, 0);
        if (answer == 0) {
            Check.equal("what the example prints", printed(directory), due);
        }
    }

    private static String printed(Path directory) throws IOException, ReflectiveOperationException {
        PrintStream usual = System.out;
        ByteArrayOutputStream bytes = new ByteArrayOutputStream();
        try (URLClassLoader loader = new URLClassLoader(new URL[] {directory.toUri().toURL()})) {
            Method main = loader.loadClass("Example").getMethod("main", String[].class);
            System.setOut(new PrintStream(bytes, true));
            main.invoke(null, (Object) new String[0]);
        } finally {
            System.setOut(usual);
        }
        return bytes.toString().replace(System.lineSeparator(), "\n");
    }

    /** Each call has one row, which names the exceptions of the face in their order. */
    private static void table(String readme) {
        for (Method method : HardwareTaskQueue.class.getDeclaredMethods()) {
            if (!Modifier.isPublic(method.getModifiers())) {
                continue;
            }
            List<String> rows = new ArrayList<>();
            for (String line : readme.split("\n")) {
                if (line.startsWith("| `" + method.getName() + "(")) {
                    rows.add(line);
                }
            }
            Check.equal("rows of " + method.getName(), rows.size(), 1);
            List<String> due = new ArrayList<>();
            for (Class<?> type : method.getExceptionTypes()) {
                due.add(type.getSimpleName());
            }
            Check.equal("what " + method.getName() + " throws",
                    exceptionsIn(String.join("", rows)).toString(), due.toString());
        }
    }

    private static List<String> exceptionsIn(String row) {
        List<String> names = new ArrayList<>();
        Matcher matcher = EXCEPTION.matcher(row);
        while (matcher.find()) {
            names.add(matcher.group(1));
        }
        return names;
    }

    private static void constants(String readme) {
        String[] errors = {"`SYNTAX_ERROR` (" + HardwareTaskQueue.SYNTAX_ERROR + ")",
            "`OUT_OF_RANGE` (" + HardwareTaskQueue.OUT_OF_RANGE + ")",
            "`TOO_MANY` (" + HardwareTaskQueue.TOO_MANY + ")",
            "`TOO_DEEP` (" + HardwareTaskQueue.TOO_DEEP + ")"};
        for (String error : errors) {
            Check.equal("README.md has " + error, readme.contains(error), true);
        }
    }

    private static void everyTest(String readme) throws IOException {
        try (var files = Files.list(Path.of("src/test/java"))) {
            for (Path file : files.sorted().toList()) {
                String name = file.getFileName().toString().replace(".java", "");
                Check.equal("README.md has the test " + name, readme.contains("| " + name + " |"),
                        true);
            }
        }
    }
}
