import java.io.IOException;
import java.lang.reflect.Constructor;
import java.lang.reflect.Field;
import java.lang.reflect.Method;
import java.lang.reflect.Modifier;
import java.nio.charset.StandardCharsets;
import java.nio.file.Files;
import java.nio.file.Path;
import java.util.ArrayList;
import java.util.Arrays;
import java.util.List;
import java.util.TreeSet;
import java.util.regex.Pattern;

/** The document's face and nothing beside it, and the rules of LANGUAGE.md that can be seen from outside. */
public final class FaceTest {
    private static final String[] FACE = {
        "int request(int,int,int,int) IndexOutOfBoundsException IllegalArgumentException IllegalStateException",
        "void again(int) IndexOutOfBoundsException IllegalStateException",
        "void deliver(int) IllegalArgumentException",
        "void lose(int) IllegalArgumentException",
        "int flow(int) IllegalArgumentException",
        "void down(int) IndexOutOfBoundsException IllegalStateException",
        "void up(int) IndexOutOfBoundsException IllegalStateException",
        "void suspect(int) IndexOutOfBoundsException IllegalStateException",
        "int nudge(int) IndexOutOfBoundsException IllegalStateException",
        "void sync(int) IndexOutOfBoundsException IllegalStateException",
        "int tick(int) IllegalArgumentException",
        "int calm(int) IllegalArgumentException",
        "boolean fail()",
        "int install()",
        "int replica(int,int)",
        "int entry(int,int,int)",
        "int word(int,int)",
        "int client(int,int)",
        "int answer(int)",
        "int about(int)",
        "int message(int,int)",
        "int wire(int)",
        "int image(int) IndexOutOfBoundsException",
        "int output(int)",
        "boolean put(long,int)",
        "int take(int,int)",
        "int untake() IllegalArgumentException",
        "int fault(int)",
        "int told(int)",
        "int tolds()",
        "int broken()",
    };

    public static void main(String[] args) throws IOException {
        members();
        inside();
        source();
        Check.end();
    }

    private static String told(Method m) {
        StringBuilder text = new StringBuilder();
        text.append(m.getReturnType().getSimpleName()).append(' ').append(m.getName()).append('(');
        List<String> types = new ArrayList<>();
        for (Class<?> c : m.getParameterTypes()) {
            types.add(c.getSimpleName());
        }
        text.append(String.join(",", types)).append(')');
        for (Class<?> c : m.getExceptionTypes()) {
            text.append(' ').append(c.getSimpleName());
        }
        return text.toString();
    }

    private static void members() {
        Class<?> c = OrderedWorks.class;
        Check.yes("public and final", Modifier.isPublic(c.getModifiers()) && Modifier.isFinal(c.getModifiers()));
        TreeSet<String> face = new TreeSet<>();
        TreeSet<String> names = new TreeSet<>();
        for (Method m : c.getDeclaredMethods()) {
            if (!Modifier.isPrivate(m.getModifiers())) {
                Check.yes("public: " + m, Modifier.isPublic(m.getModifiers()) && !Modifier.isStatic(m.getModifiers()));
                face.add(told(m));
                names.add(m.getName());
            }
        }
        Check.yes("the face, " + face, face.equals(new TreeSet<>(Arrays.asList(FACE))));
        for (Method m : c.getDeclaredMethods()) {
            Check.yes("a private name", !Modifier.isPrivate(m.getModifiers()) || !names.contains(m.getName()));
        }
        for (Field f : c.getDeclaredFields()) {
            boolean none = f.getName().equals("NONE") && Modifier.isPublic(f.getModifiers());
            Check.yes("private: " + f, none || Modifier.isPrivate(f.getModifiers()));
            Check.yes("no static state: " + f,
                !Modifier.isStatic(f.getModifiers()) || Modifier.isFinal(f.getModifiers()));
        }
        Constructor<?>[] made = c.getDeclaredConstructors();
        Check.due("one constructor", made.length, 1);
        Check.yes("of two ints", Arrays.equals(made[0].getParameterTypes(), new Class<?>[] {int.class, int.class}));
        Check.yes("public", Modifier.isPublic(made[0].getModifiers()));
        Check.due("it names no exception", made[0].getExceptionTypes().length, 0);
    }

    private static void inside() {
        Class<?>[] classes = OrderedWorks.class.getDeclaredClasses();
        Check.yes("some twelve classes", classes.length < 12);
        for (Class<?> c : classes) {
            int m = c.getModifiers();
            Check.yes("static: " + c, Modifier.isStatic(m) && !Modifier.isPublic(m) && !Modifier.isProtected(m));
            int fields = 0;
            for (Field f : c.getDeclaredFields()) {
                fields += Modifier.isStatic(f.getModifiers()) ? 0 : 1;
            }
            Check.yes("some twenty fields: " + c, fields <= 20);
            for (Method method : c.getDeclaredMethods()) {
                Check.yes("seven parameters: " + method, method.getParameterCount() <= 7);
            }
        }
    }

    /** Words that have no place in the program, in its text without comments and written texts. */
    private static void source() throws IOException {
        byte[] bytes = Files.readAllBytes(Path.of("src/main/java/OrderedWorks.java"));
        String text = new String(bytes, StandardCharsets.ISO_8859_1);
        String code = text.replaceAll("(?s)/\\*.*?\\*/", "").replaceAll("//[^\n]*", "").replaceAll("\"[^\"\n]*\"", "\"\"");
        String[] forbidden = {"\\btry\\b", "\\bcatch\\b", "\\bfinally\\b", "\\bsynchronized\\b", "\\bassert\\b", "->", "::",
            "Exact\\b", "\\bimport\\b", "\\bpackage\\b", "hashCode", "toString", "\\bequals\\b", "\\bSystem\\b", "\"\" *\\+",
            "\\+ *\"\"", "static *\\{", "\\bdouble\\b", "\\bfloat\\b", "\\bprotected\\b", "\\bgetMessage\\b"};
        for (String word : forbidden) {
            Check.yes("none of " + word, !Pattern.compile(word).matcher(code).find());
        }
        for (byte b : bytes) {
            if (b < 0 || b == '\t') {
                Check.yes("plain characters", false);
            }
        }
    }
}
