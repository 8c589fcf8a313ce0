import java.io.IOException;
import java.lang.reflect.InvocationTargetException;
import java.lang.reflect.Method;
import java.lang.reflect.Modifier;
import java.nio.file.Files;
import java.nio.file.Path;
import java.util.regex.Matcher;
import java.util.regex.Pattern;

/** README.md: each call of its example answers as it is told there, and it names every call and test. */
public final class ReadmeTest {
    private static final Pattern CALL = Pattern.compile("x\\.(\\w+)\\(([^)]*)\\); *// (-?\\d+|true|false)\\b.*");
    private static int calls;

    private static Method named(String name) {
        for (Method m : WheelPens.class.getDeclaredMethods()) {
            if (Modifier.isPublic(m.getModifiers()) && m.getName().equals(name)) {
                return m;
            }
        }
        throw new IllegalStateException("README.md has a call that is not in the class: " + name);
    }

    private static Object[] numbers(String list) {
        if (list.isEmpty()) {
            return new Object[0];
        }
        String[] written = list.split(", ");
        Object[] numbers = new Object[written.length];
        for (int i = 0; i < written.length; i++) {
            numbers[i] = Integer.decode(written[i]);
        }
        return numbers;
    }

    private static void example(String text) throws IllegalAccessException, InvocationTargetException {
        WheelPens x = new WheelPens();
        for (String line : text.split("\n")) {
            Matcher call = CALL.matcher(line);
            if (call.matches()) {
                calls++;
                Object answer = named(call.group(1)).invoke(x, numbers(call.group(2)));
                Due.due(line, String.valueOf(answer), call.group(3));
            } else {
                Due.due("a call without its answer: " + line, line.startsWith("x."), false);
            }
        }
    }

    public static void main(String[] args) throws Exception {
        String readme = Files.readString(Path.of("README.md"));
        Matcher block = Pattern.compile("(?s)```java\n(.*?)```").matcher(readme);
        Due.says("README.md says how to use the class");
        Due.due("there is an example", block.find(), true);
        example(block.group(1));
        Due.due("it has calls", calls > 9, true);
        for (Method m : WheelPens.class.getDeclaredMethods()) {
            if (Modifier.isPublic(m.getModifiers())) {
                Due.due("it tells of " + m.getName(), readme.contains("`" + m.getName() + "("), true);
            }
        }
        Due.says("README.md says how to run its tests");
        Due.due("it names the script", readme.contains(".ci/run"), true);
        try (var tests = Files.list(Path.of("src/test/java"))) {
            for (Path test : (Iterable<Path>) tests::iterator) {
                String name = test.getFileName().toString().replace(".java", "");
                Due.due("it tells of " + name, readme.contains("`" + name + "`"), true);
            }
        }
        Due.report();
    }
}
