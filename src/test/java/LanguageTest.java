import java.io.IOException;
import java.lang.reflect.Field;
import java.lang.reflect.Method;
import java.lang.reflect.Modifier;
import java.nio.file.Files;
import java.nio.file.Path;
import java.util.HashSet;
import java.util.List;
import java.util.Set;

/** Those rules of LANGUAGE.md that can be seen from the text or the classes alone. Run from the project's folder. */
public final class LanguageTest {
    private static final String[] RULED_OUT = {
        "->", "::", "synchronized", "finally", "assert ", "try ", "catch", "Exact(", "double", "float", "import static",
        "System.out", "System.err", "Thread", "Random", "nanoTime", "currentTimeMillis", "hashCode", "toString", "package ",
        "String ", "protected", "static {",
    };

    public static void main(String[] args) throws IOException {
        Checks checks = new Checks();
        List<String> lines = Files.readAllLines(Path.of("src/main/java/ImposeSheets.java"));
        int classes = 0;
        int methodBegin = -1;
        for (int i = 0; i < lines.size(); i++) {
            String line = lines.get(i);
            for (String text : RULED_OUT) {
                checks.due("line " + (i + 1) + " has " + text, false, line.contains(text));
            }
            if (line.startsWith("import ")) {
                checks.due("import", "import java.util.Arrays;", line);
            }
            classes += line.contains(" class ") && line.endsWith("{") ? 1 : 0;
            String bare = line.strip();
            int indent = line.length() - line.stripLeading().length();
            boolean opens = indent <= 8 && bare.endsWith("{") && bare.contains("(");
            if (opens) {
                methodBegin = i;
            } else if (bare.equals("}") && indent <= 8 && methodBegin >= 0) {
                checks.due("line " + (methodBegin + 1) + ": a long method", true, i - methodBegin < 60);
                methodBegin = -1;
            }
        }
        checks.due("some twelve classes at most", true, classes <= 12);
        nothingIsMadeByCalls(checks, lines);
        classesInside(checks);
        checks.end();
    }

    /** Objects are made by the constructor and by the fields of what it makes; a call makes exceptions alone. */
    private static void nothingIsMadeByCalls(Checks checks, List<String> lines) {
        boolean inConstructor = false;
        for (int i = 0; i < lines.size(); i++) {
            String bare = lines.get(i).strip();
            if (bare.startsWith("public ")) {
                inConstructor = bare.startsWith("public ImposeSheets()");
            }
            if (bare.contains("new ") && !bare.startsWith("*") && !bare.startsWith("/")) {
                boolean fine = inConstructor || bare.startsWith("throw new ") || bare.startsWith("private final ");
                checks.due("line " + (i + 1) + " makes an object in a call", false, !fine);
            }
        }
    }

    private static void classesInside(Checks checks) {
        Set<String> face = new HashSet<>();
        for (Method method : ImposeSheets.class.getDeclaredMethods()) {
            if (Modifier.isPublic(method.getModifiers())) {
                face.add(method.getName());
            } else {
                methodFits(checks, method);
            }
        }
        fieldsFit(checks, ImposeSheets.class);
        for (Class<?> inside : ImposeSheets.class.getDeclaredClasses()) {
            checks.due(inside.getName() + " is static", true, Modifier.isStatic(inside.getModifiers()));
            checks.due(inside.getName() + " is private", true, Modifier.isPrivate(inside.getModifiers()));
            fieldsFit(checks, inside);
            for (Method method : inside.getDeclaredMethods()) {
                methodFits(checks, method);
                checks.due(method + " bears a name of the face", false, face.contains(method.getName()));
            }
        }
    }

    private static void methodFits(Checks checks, Method method) {
        checks.due(method + " has seven parameters at most", true, method.getParameterCount() <= 7);
    }

    private static void fieldsFit(Checks checks, Class<?> of) {
        int count = 0;
        for (Field field : of.getDeclaredFields()) {
            if (Modifier.isStatic(field.getModifiers())) {
                checks.due(field + " is final", true, Modifier.isFinal(field.getModifiers()));
            } else {
                count++;
            }
        }
        checks.due(of.getName() + " has some twenty fields at most", true, count <= 20);
    }
}
