import java.io.IOException;
import java.nio.file.Files;
import java.nio.file.Path;
import java.util.Set;

/** Some of the rules of LANGUAGE.md that can be seen line by line. */
public final class LanguageTest {
    private static final String PROGRAM = "src/main/java/HardwareTaskQueue.java";
    private static final Set<String> IMPORTS = Set.of("import java.util.Arrays;",
            "import java.util.ArrayList;", "import java.util.List;");
    private static final String FORBIDDEN = ".*(\\b(try|catch|finally|synchronized|assert|package"
            + "|protected|double|float|Random|Thread|equals|hashCode|toString|while \\(true)\\b"
            + "|->|::|Exact\\b|System\\.(?!arraycopy)).*";
    private static final int LONGEST_METHOD = 60;

    public static void main(String[] args) throws IOException {
        int number = 0;
        int opened = 0;
        for (String line : Files.readAllLines(Path.of(PROGRAM))) {
            number++;
            String where = "line " + number + ": " + line;
            String code = line.strip();
            if (code.startsWith("*") || code.startsWith("/*")) {
                continue;
            }
            Check.equal("a forbidden word in " + where, line.matches(FORBIDDEN), false);
            Check.equal("a sign beyond 127 in " + where,
                    line.chars().anyMatch(sign -> sign > 127), false);
            if (code.startsWith("import")) {
                Check.equal("allowed: " + where, IMPORTS.contains(code), true);
            }
            if (line.matches(" {4}( {4})?(public |private |static )*\\w+(\\[\\])? ?\\w*\\(.*")) {
                opened = number;
            }
            if (line.matches(" {4}( {4})?\\}") && opened > 0) {
                Check.equal("a long method ends at " + where,
                        number - opened <= LONGEST_METHOD, true);
            }
        }
        Check.end();
    }
}
