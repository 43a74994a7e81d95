import java.lang.reflect.Constructor;
import java.lang.reflect.Field;
import java.lang.reflect.Method;
import java.lang.reflect.Modifier;
import java.util.ArrayList;
import java.util.Collections;
import java.util.List;

/** The public face is the document's, and nothing else can be seen from outside. */
public final class FaceTest {
    private static final String[] FACE = {
        "boolean type(long,int)",
        "int scheme()",
        "int setting(int,int) IndexOutOfBoundsException IllegalArgumentException",
        "int run(int) IllegalArgumentException IllegalStateException",
        "int broken()",
        "int at(int,int,int,int) IndexOutOfBoundsException",
        "int fold(int) IndexOutOfBoundsException",
        "int creep(int) IndexOutOfBoundsException",
        "int laid(int) IndexOutOfBoundsException",
        "int job(int) IllegalArgumentException UnsupportedOperationException",
        "void clear()",
        "int share(int,int,int) IllegalArgumentException IllegalStateException",
        "int shared(int,int) IndexOutOfBoundsException",
    };

    public static void main(String[] args) {
        Checks checks = new Checks();
        List<String> want = new ArrayList<>(List.of(FACE));
        List<String> got = new ArrayList<>();
        for (Method method : ImposeSheets.class.getDeclaredMethods()) {
            if (!Modifier.isPrivate(method.getModifiers())) {
                got.add(written(method));
                checks.due(method.getName() + " is public", true, Modifier.isPublic(method.getModifiers()));
            }
        }
        Collections.sort(want);
        Collections.sort(got);
        checks.due("the methods", want.toString(), got.toString());
        checks.due("the class is public and final", Modifier.PUBLIC | Modifier.FINAL, ImposeSheets.class.getModifiers());
        Constructor<?>[] constructors = ImposeSheets.class.getDeclaredConstructors();
        checks.due("constructors", 1, constructors.length);
        checks.due("its parameters", 0, constructors[0].getParameterCount());
        checks.due("it is public", true, Modifier.isPublic(constructors[0].getModifiers()));
        for (Field field : ImposeSheets.class.getDeclaredFields()) {
            checks.due("field " + field.getName() + " is private", true, Modifier.isPrivate(field.getModifiers()));
        }
        checks.end();
    }

    private static String written(Method method) {
        StringBuilder text = new StringBuilder();
        text.append(method.getReturnType().getSimpleName()).append(' ').append(method.getName()).append('(');
        for (int i = 0; i < method.getParameterCount(); i++) {
            text.append(i == 0 ? "" : ",").append(method.getParameterTypes()[i].getSimpleName());
        }
        text.append(')');
        for (Class<?> thrown : method.getExceptionTypes()) {
            text.append(' ').append(thrown.getSimpleName());
        }
        return text.toString();
    }
}
