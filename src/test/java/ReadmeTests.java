import java.io.IOException;
import java.lang.reflect.InvocationTargetException;
import java.lang.reflect.Method;
import java.lang.reflect.Modifier;
import java.nio.file.DirectoryStream;
import java.nio.file.Files;
import java.nio.file.Path;
import java.util.regex.Matcher;
import java.util.regex.Pattern;

/** README.md: its example answers what it says, and it names every call and every test. */
public final class ReadmeTests {
    private static final Path README = Path.of("README.md");
    private static final Path TESTS = Path.of("src/test/java");
    private static final Pattern EXAMPLE = Pattern.compile("(?s)```java\n(.*?)```");
    private static final Pattern CALL = Pattern.compile("book\\.(\\w+)\\((.*)\\); +// (-?\\d+)\\b.*");

    private static String example(String readme) {
        Matcher m = EXAMPLE.matcher(readme);
        return m.find() ? m.group(1) : "";
    }

    private static Object valueOf(String word, Class<?> type) {
        if (type == boolean.class) {
            return Boolean.valueOf(word);
        }
        if (type == long.class) {
            return Long.decode(word.replaceAll("L$", ""));
        }
        return Integer.decode(word);
    }

    private static Method method(String name) {
        for (Method m : ClubStrokes.class.getDeclaredMethods()) {
            if (Modifier.isPublic(m.getModifiers()) && m.getName().equals(name)) {
                return m;
            }
        }
        return null;
    }

    private static int answer(ClubStrokes book, Method m, String[] words) {
        Class<?>[] types = m.getParameterTypes();
        Object[] values = new Object[types.length];
        for (int i = 0; i < types.length; i++) {
            values[i] = valueOf(words[i], types[i]);
        }
        try {
            return (Integer) m.invoke(book, values);
        } catch (IllegalAccessException | InvocationTargetException e) {
            throw new IllegalStateException(e);
        }
    }

    private static void tryLine(ClubStrokes book, String line) {
        Matcher call = CALL.matcher(line);
        Method m = call.matches() ? method(call.group(1)) : null;
        if (m == null) {
            Tally.fault("no call with its answer: " + line);
            return;
        }
        String[] words = call.group(2).split(", ");
        if (words.length != m.getParameterCount()) {
            Tally.fault("not as many arguments: " + line);
            return;
        }
        Tally.due(line, answer(book, m, words), Integer.parseInt(call.group(3)));
    }

    private static void exampleHolds(String readme) {
        ClubStrokes book = new ClubStrokes();
        for (String line : example(readme).split("\n")) {
            if (!line.isEmpty() && !line.contains("new ClubStrokes()")) {
                tryLine(book, line);
            }
        }
    }

    private static void namesEveryCall(String readme) {
        for (Method m : ClubStrokes.class.getDeclaredMethods()) {
            if (Modifier.isPublic(m.getModifiers())) {
                Tally.due("`" + m.getName() + "`", readme.contains("`" + m.getName() + "`") ? 1 : 0, 1);
            }
        }
    }

    private static void namesEveryTest(String readme) {
        try (DirectoryStream<Path> files = Files.newDirectoryStream(TESTS, "*.java")) {
            for (Path file : files) {
                String name = "`src/test/java/" + file.getFileName() + "`";
                Tally.due(name, readme.contains(name) ? 1 : 0, 1);
            }
        } catch (IOException e) {
            throw new IllegalStateException(e);
        }
    }

    public static void main(String[] args) throws IOException {
        String readme = Files.readString(README);
        Tally.test("how the class is used: the example's answers", () -> exampleHolds(readme));
        Tally.test("how the class is used: every call", () -> namesEveryCall(readme));
        Tally.test("how its tests are run: every test", () -> namesEveryTest(readme));
        Tally.end();
    }
}
