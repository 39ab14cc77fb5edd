import java.io.IOException;
import java.lang.reflect.InvocationTargetException;
import java.lang.reflect.Method;
import java.nio.charset.StandardCharsets;
import java.nio.file.DirectoryStream;
import java.nio.file.Files;
import java.nio.file.Path;
import java.util.regex.Matcher;
import java.util.regex.Pattern;

/** What README.md shows: its examples answer as they say, and no call of the face is left out. */
public final class ReadmeTest {
    private static final Path README = Path.of("README.md");
    private static final Pattern EXAMPLE = Pattern.compile("(?s)```java\n(.*?)```");
    private static final Pattern MADE = Pattern.compile("OrderedWorks works = new OrderedWorks\\((-?\\d+), (-?\\d+)\\);.*");
    private static final Pattern CALLED = Pattern.compile("works\\.(\\w+)\\(([-\\d, ]*)\\);(?: *// (.*))?");
    private static final Pattern TOLD = Pattern.compile("(-?\\d+|true|false|throws \\w+)(?::.*)?");

    private OrderedWorks works;
    private int answers;

    public static void main(String[] args) throws IOException {
        String text = Files.readString(README, StandardCharsets.UTF_8);
        ReadmeTest test = new ReadmeTest();
        int examples = 0;
        for (Matcher m = EXAMPLE.matcher(text); m.find(); examples++) {
            test.run(m.group(1));
        }
        Check.yes("there are examples", examples > 0 && test.answers > 0);
        for (Method m : OrderedWorks.class.getMethods()) {
            boolean own = m.getDeclaringClass() == OrderedWorks.class;
            Check.yes(m.getName() + " is told", !own || text.contains("`" + m.getName() + "("));
        }
        Check.yes("how to run the tests", text.contains(".ci/run"));
        names(text);
        Check.end();
    }

    private static void names(String text) throws IOException {
        try (DirectoryStream<Path> files = Files.newDirectoryStream(Path.of("src/test/java"), "*Test.java")) {
            for (Path file : files) {
                String name = file.getFileName().toString().replace(".java", "");
                Check.yes(name + " is told", text.contains("`" + name + "`"));
            }
        }
    }

    private void run(String example) {
        for (String line : example.split("\n")) {
            Matcher made = MADE.matcher(line);
            Matcher called = CALLED.matcher(line);
            if (made.matches()) {
                works = new OrderedWorks(Integer.parseInt(made.group(1)), Integer.parseInt(made.group(2)));
            } else if (called.matches()) {
                String got = answer(called.group(1), called.group(2));
                Matcher told = TOLD.matcher(called.group(3) == null ? "" : called.group(3));
                String want = told.matches() ? told.group(1) : "null";
                answers += told.matches() ? 1 : 0;
                Check.text(line, got, want);
            } else {
                Check.fault("an example's line is not understood: " + line);
            }
        }
    }

    private String answer(String name, String arguments) {
        String[] words = arguments.isEmpty() ? new String[0] : arguments.split(", ");
        Object[] values = new Object[words.length];
        for (int i = 0; i < words.length; i++) {
            values[i] = Integer.valueOf(words[i]);
        }
        for (Method m : OrderedWorks.class.getMethods()) {
            if (m.getName().equals(name) && m.getParameterCount() == values.length) {
                try {
                    return String.valueOf(m.invoke(works, values));
                } catch (InvocationTargetException e) {
                    return "throws " + e.getCause().getClass().getSimpleName();
                } catch (IllegalAccessException e) {
                    return "closed";
                }
            }
        }
        return "no such call";
    }
}
