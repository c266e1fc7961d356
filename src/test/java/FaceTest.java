import java.lang.reflect.Field;
import java.lang.reflect.Method;
import java.lang.reflect.Modifier;
import java.util.Arrays;
import java.util.Set;
import java.util.TreeSet;

/** The public face, and rule 1 of LANGUAGE.md. */
public final class FaceTest {
    private static final String A = "java.lang.IllegalArgumentException";
    private static final String M = "java.util.NoSuchElementException";
    private static final String S = "java.lang.IllegalStateException";
    private static final String U = "java.lang.UnsupportedOperationException";

    private static final String[] FACE = {
        "int directory(int) " + A + " " + M + " " + S + " " + U,
        "int open(int, int, boolean, boolean, boolean) " + A + " " + M + " " + S + " " + U,
        "void close(int) " + A + " " + S,
        "void write(int, long, int) " + A + " " + S + " " + U,
        "long read(int, int) " + A + " " + S,
        "void seek(int, int) " + A + " " + S,
        "int next(int) " + A + " " + S,
        "void remove(int) " + A + " " + M + " " + S,
        "void rename(int, int) " + A + " " + M + " " + S + " " + U,
        "void truncate(int, int) " + A + " " + M + " " + S + " " + U,
        "int stat(int, int) " + A + " " + M,
        "int commit() " + S,
        "void cutPower(int) " + A,
        "void crash()",
        "int block(int, int, boolean) " + A,
        "int count(int)",
    };

    public static void main(String[] args) {
        Class<?> face = JournaledFiles.class;
        Check.due("class", Modifier.toString(face.getModifiers()), "public final");
        Check.due("constructors", Arrays.toString(face.getDeclaredConstructors()), "[public JournaledFiles()]");
        Set<String> shown = new TreeSet<>();
        Set<String> names = new TreeSet<>();
        for (Method method : face.getDeclaredMethods()) {
            if (!Modifier.isPrivate(method.getModifiers())) {
                Check.due(method.getName(), Modifier.toString(method.getModifiers()), "public");
                shown.add(described(method));
                names.add(method.getName());
            }
        }
        Check.due("methods", shown.toString(), new TreeSet<>(Arrays.asList(FACE)).toString());
        for (Method method : face.getDeclaredMethods()) {
            if (Modifier.isPrivate(method.getModifiers())) {
                Check.due("private method named " + method.getName(), names.contains(method.getName()) ? 1 : 0, 0);
            }
        }
        for (Field field : face.getDeclaredFields()) {
            Check.due("private: " + field.getName(), Modifier.isPrivate(field.getModifiers()) ? 1 : 0, 1);
        }
        Check.end();
    }

    private static String described(Method method) {
        StringBuilder text = new StringBuilder();
        text.append(method.getReturnType()).append(' ').append(method.getName());
        text.append(Arrays.toString(method.getParameterTypes()).replace('[', '(').replace(']', ')'));
        for (Class<?> thrown : method.getExceptionTypes()) {
            text.append(' ').append(thrown.getName());
        }
        return text.toString();
    }
}
