import java.io.IOException;
import java.lang.reflect.InvocationTargetException;
import java.lang.reflect.Method;
import java.nio.file.Files;
import java.nio.file.Path;
import java.util.ArrayList;
import java.util.List;
import java.util.Set;
import java.util.TreeSet;
import java.util.regex.Matcher;
import java.util.regex.Pattern;

/** What README.md says of the use of the class: its calls, its table of settings. Run from the project's folder. */
public final class ReadmeTest {
    private static final Checks CHECKS = new Checks();
    private static final Pattern CALL = Pattern.compile(
            "x\\.(\\w+)\\(([^)]*)\\); +// (-?\\d+|true|false|no answer|throws \\w+)(: .+)?");
    private static final Pattern ROW = Pattern.compile(
            "\\| (\\d+) \\| .+ \\| (\\d+) \\.\\. (\\d+) \\| (\\d+) \\|");
    private static final String NEW_OBJECT = "ImposeSheets x = new ImposeSheets();";

    private static final Set<String> USED = new TreeSet<>();
    private static ImposeSheets x;
    private static int settings = 0;

    public static void main(String[] args) throws IOException, IllegalAccessException {
        List<String> lines = Files.readAllLines(Path.of("README.md"));
        boolean inCode = false;
        for (int i = 0; i < lines.size(); i++) {
            String line = lines.get(i);
            if (line.startsWith("```")) {
                inCode = line.equals("```java");
                x = null;
            } else if (inCode) {
                makeCall(i + 1, line);
            } else {
                tryRow(line);
            }
        }
        CHECKS.due("the rows of settings", 10, settings);
        Set<String> face = new TreeSet<>();
        for (Method method : ImposeSheets.class.getMethods()) {
            if (method.getDeclaringClass() == ImposeSheets.class) {
                face.add(method.getName());
            }
        }
        CHECKS.due("the methods that are shown", face.toString(), USED.toString());
        CHECKS.end();
    }

    private static void makeCall(int number, String line) throws IllegalAccessException {
        if (line.equals(NEW_OBJECT)) {
            x = new ImposeSheets();
            return;
        }
        Matcher call = CALL.matcher(line);
        boolean fits = call.matches() && x != null;
        CHECKS.due("line " + number + " is a call with its answer", true, fits);
        if (fits) {
            USED.add(call.group(1));
            CHECKS.due("line " + number + ", " + line.substring(0, line.indexOf(';')), call.group(3),
                    answer(call.group(1), call.group(2)));
        }
    }

    private static String answer(String name, String written) throws IllegalAccessException {
        Method method = methodOf(name);
        List<Object> arguments = new ArrayList<>();
        for (String text : written.isEmpty() ? new String[0] : written.split(", ")) {
            boolean isLong = method.getParameterTypes()[arguments.size()] == long.class;
            arguments.add(isLong ? (Object) Long.decode(text.replace("L", "")) : (Object) Integer.decode(text));
        }
        try {
            Object got = method.invoke(x, arguments.toArray());
            return method.getReturnType() == void.class ? "no answer" : got.toString();
        } catch (InvocationTargetException e) {
            return "throws " + e.getCause().getClass().getSimpleName();
        }
    }

    private static Method methodOf(String name) {
        for (Method method : ImposeSheets.class.getMethods()) {
            if (method.getName().equals(name)) {
                return method;
            }
        }
        throw new AssertionError("no such method: " + name);
    }

    /** A row of the table: its bounds, and what is set at first. */
    private static void tryRow(String line) {
        Matcher row = ROW.matcher(line);
        if (!row.matches()) {
            return;
        }
        int what = Integer.parseInt(row.group(1));
        int least = Integer.parseInt(row.group(2));
        int most = Integer.parseInt(row.group(3));
        CHECKS.due("the row's number", settings, what);
        settings++;
        ImposeSheets sheets = new ImposeSheets();
        CHECKS.dueThrow(what + " below its least", IllegalArgumentException.class, () -> sheets.setting(what, least - 1));
        CHECKS.dueThrow(what + " above its most", IllegalArgumentException.class, () -> sheets.setting(what, most + 1));
        CHECKS.due(what + " at first", Integer.parseInt(row.group(4)), sheets.setting(what, most));
        CHECKS.due(what + " at its most", most, sheets.setting(what, least));
        CHECKS.due(what + " at its least", least, sheets.setting(what, least));
    }
}
