import java.io.IOException;
import java.nio.file.Files;
import java.nio.file.Path;
import java.util.List;

/** Those rules of LANGUAGE.md that can be seen from the text alone. Run from the project's folder. */
public final class LanguageTest {
    private static final String[] RULED_OUT = {
        "->", "::", "synchronized", "finally", "assert ", "try ", "catch", "Exact(", "double", "float", "import static",
        "System.out", "System.err", "Thread", "Random", "nanoTime", "currentTimeMillis", "hashCode", "toString", "package ",
        "String ", "protected", "static {",
    };

    public static void main(String[] args) throws IOException {
        Checks checks = new Checks();
        List<String> lines = Files.readAllLines(Path.of("src/main/java/ImposeSheets.java"));
        int classes = 0;
        int methodBegin = -1;
        for (int i = 0; i < lines.size(); i++) {
            String line = lines.get(i);
            for (String text : RULED_OUT) {
                checks.due("line " + (i + 1) + " has " + text, false, line.contains(text));
            }
            if (line.startsWith("import ")) {
                checks.due("import", "import java.util.Arrays;", line);
            }
            classes += line.contains(" class ") && line.endsWith("{") ? 1 : 0;
            String bare = line.strip();
            int indent = line.length() - line.stripLeading().length();
            boolean opens = indent <= 8 && bare.endsWith("{") && bare.contains("(");
            if (opens) {
                methodBegin = i;
            } else if (bare.equals("}") && indent <= 8 && methodBegin >= 0) {
                checks.due("line " + (methodBegin + 1) + ": a long method", true, i - methodBegin < 60);
                methodBegin = -1;
            }
        }
        checks.due("some twelve classes at most", true, classes <= 12);
        checks.end();
    }
}
