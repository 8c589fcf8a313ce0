import java.io.IOException;
import java.lang.reflect.Constructor;
import java.lang.reflect.Field;
import java.lang.reflect.Method;
import java.lang.reflect.Modifier;
import java.nio.file.Files;
import java.nio.file.Path;
import java.util.Set;
import java.util.TreeSet;
import java.util.regex.Matcher;
import java.util.regex.Pattern;

/** 'The public face' as the document itself writes it: every constant with its value, constructor and
    method, with the exceptions that they declare, and nothing else. */
public final class FaceTest {
    private static final Path DOCUMENT = Path.of("../shared/DOC.md");

    /** The lines between the class's brackets, in one spelling: without the names of parameters. */
    private static Set<String> told() throws IOException {
        Set<String> face = new TreeSet<>();
        Matcher block = Pattern.compile("(?s)```java\n(.*?)```").matcher(Files.readString(DOCUMENT));
        if (block.find()) {
            for (String line : block.group(1).split("\n")) {
                if (line.startsWith("    public ")) {
                    face.add(line.trim().replaceAll("(int|long|boolean) \\w+(?=[,)])", "$1").replace(";", ""));
                }
            }
        }
        return face;
    }

    private static String types(Class<?>[] types) {
        StringBuilder all = new StringBuilder();
        for (Class<?> type : types) {
            all.append(all.length() == 0 ? "" : ", ").append(type.getSimpleName());
        }
        return all.toString();
    }

    private static String thrown(Class<?>[] types) {
        return types.length == 0 ? "" : " throws " + types(types);
    }

    /** What the class shows outside: all that is not private, classes inside it left out. */
    private static Set<String> seen() throws IllegalAccessException {
        Set<String> face = new TreeSet<>();
        for (Field f : WheelPens.class.getDeclaredFields()) {
            if (!Modifier.isPrivate(f.getModifiers())) {
                String value = Modifier.isStatic(f.getModifiers()) ? " = " + f.get(null) : "";
                face.add(Modifier.toString(f.getModifiers()) + " " + f.getType() + " " + f.getName() + value);
            }
        }
        for (Constructor<?> c : WheelPens.class.getDeclaredConstructors()) {
            face.add(Modifier.toString(c.getModifiers()) + " " + c.getName() + "(" + types(c.getParameterTypes()) + ")"
                + thrown(c.getExceptionTypes()));
        }
        for (Method m : WheelPens.class.getDeclaredMethods()) {
            if (!Modifier.isPrivate(m.getModifiers())) {
                face.add(Modifier.toString(m.getModifiers()) + " " + m.getReturnType() + " " + m.getName() + "("
                    + types(m.getParameterTypes()) + ")" + thrown(m.getExceptionTypes()));
            }
        }
        return face;
    }

    public static void main(String[] args) throws IOException, IllegalAccessException {
        Set<String> told = told();
        Set<String> seen = seen();
        Due.says("The public face");
        Due.due("a constant, a constructor and 30 methods are told: how many", told.size(), 32);
        for (String member : told) {
            Due.due("the class has " + member, seen.contains(member), true);
        }
        for (String member : seen) {
            Due.due("the document has " + member, told.contains(member), true);
        }
        int modifiers = WheelPens.class.getModifiers();
        Due.due("public final class WheelPens", Modifier.toString(modifiers), "public final");
        Due.due("no package", WheelPens.class.getPackageName(), "");
        Due.due("extends nothing", WheelPens.class.getSuperclass() == Object.class, true);
        Due.due("implements nothing", WheelPens.class.getInterfaces().length, 0);
        Due.report();
    }
}
