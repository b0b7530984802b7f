import java.io.IOException;
import java.lang.reflect.InvocationTargetException;
import java.lang.reflect.Method;
import java.lang.reflect.Modifier;
import java.nio.file.Files;
import java.nio.file.Path;
import java.util.regex.Matcher;
import java.util.regex.Pattern;
import java.util.stream.Stream;

/** The example of README.md answers as README.md says, and the page tells of each call and each test. */
public final class ReadmeTest {
    private static final Pattern LINE = Pattern.compile("gantry\\.(\\w+)\\((.*)\\); +// (-?\\d+|[A-Z_]+)\\b.*");
    private static final Due DUE = new Due("ReadmeTest");

    public static void main(String[] args) throws IOException, ReflectiveOperationException {
        String page = Files.readString(Path.of("README.md"));
        example(page);
        calls(page);
        tests(page);
        DUE.end();
    }

    private static void example(String page) throws ReflectiveOperationException {
        int begin = page.indexOf("```java\n");
        int end = page.indexOf("```\n", begin + 8);
        DUE.holds("README.md has an example", begin >= 0 && end >= 0);
        if (begin < 0 || end < 0) {
            return;
        }
        RosetteGantry gantry = new RosetteGantry();
        for (String line : page.substring(begin + 8, end).split("\n")) {
            Matcher call = LINE.matcher(line);
            if (call.matches()) {
                DUE.is(line, answer(gantry, call.group(1), call.group(2)), number(call.group(3)));
            } else {
                DUE.holds("a call and its answer: " + line, line.isEmpty() || line.endsWith("new RosetteGantry();"));
            }
        }
    }

    private static int answer(RosetteGantry gantry, String name, String arguments)
            throws ReflectiveOperationException {
        String[] texts = arguments.isEmpty() ? new String[0] : arguments.split(", ");
        Object[] values = new Object[texts.length];
        for (int i = 0; i < texts.length; i++) {
            values[i] = value(texts[i]);
        }
        for (Method method : RosetteGantry.class.getMethods()) {
            if (method.getName().equals(name) && method.getDeclaringClass() == RosetteGantry.class) {
                return (Integer) invoke(method, gantry, values);
            }
        }
        throw new IllegalArgumentException("README.md: there is no call " + name);
    }

    private static Object invoke(Method method, RosetteGantry gantry, Object[] values)
            throws ReflectiveOperationException {
        try {
            return method.invoke(gantry, values);
        } catch (InvocationTargetException e) {
            throw new IllegalStateException(method + " threw", e.getCause());
        }
    }

    private static Object value(String text) {
        if (text.equals("true") || text.equals("false")) {
            return text.equals("true");
        }
        // A comma as a sign is written ',' and has no blank behind it, so the split leaves it whole.
        return text.startsWith("'") ? (Object) text.charAt(1) : (Object) Integer.valueOf(text);
    }

    private static int number(String text) throws ReflectiveOperationException {
        boolean constant = Character.isUpperCase(text.charAt(0));
        return constant ? RosetteGantry.class.getField(text).getInt(null) : Integer.parseInt(text);
    }

    private static void calls(String page) {
        for (Method method : RosetteGantry.class.getDeclaredMethods()) {
            if (Modifier.isPublic(method.getModifiers())) {
                DUE.holds("README.md tells of " + method.getName(), page.contains("`" + method.getName() + "`"));
            }
        }
    }

    private static void tests(String page) throws IOException {
        try (Stream<Path> files = Files.list(Path.of("src/test/java"))) {
            files.map(file -> file.getFileName().toString()).filter(name -> name.endsWith("Test.java"))
                .map(name -> name.substring(0, name.length() - 5))
                .forEach(name -> DUE.holds("README.md tells of " + name, page.contains("| " + name + " |")));
        }
    }
}
