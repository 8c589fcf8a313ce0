import java.io.IOException;
import java.lang.reflect.Constructor;
import java.lang.reflect.Field;
import java.lang.reflect.Method;
import java.lang.reflect.Modifier;
import java.nio.file.Files;
import java.nio.file.Path;
import java.util.ArrayList;
import java.util.Arrays;
import java.util.HashSet;
import java.util.List;
import java.util.Set;
import java.util.TreeSet;
import java.util.regex.Matcher;
import java.util.regex.Pattern;

/** The rules of LANGUAGE.md that a program can look at: the face, sizes, and words that may not be. */
public final class LanguageTest {
    private static final String[] FACE = {
        "int feed(int,int,int,int,int)", "boolean end(int)", "int kit()", "int fault()", "int spin(int,int)",
        "long closes(int)", "int arms(int)", "long arm(int,int,int)", "long lobes(int)", "int draw(int,int,int)",
        "int tell(int)", "int mix(int)", "boolean wipe(int)", "int about(int,int)", "long point(int,int,int)",
        "int same(int,int)", "long area(int,int)", "int one(int,int)", "int again(int,int)", "int product(int,int,int)",
        "int shared(int,int)", "int back(int)", "long backAt(int,int)", "int right(int)", "int wrong()",
        "long rightAt(int)", "int drawnBy(int)", "int made(int,int)", "int madeAt(int,int)", "int count(int)"};
    private static final Set<String> THROWING = Set.of("spin", "arm", "point", "area", "rightAt", "madeAt");
    private static final String[] BANNED = {"->", "::", "finally", "synchronized", "assert", "catch", "instanceof",
        "double", "float", "Exact(", "System.", "Random", "Thread", "getClass", "hashCode", "toString", "package "};
    private static int wrong;

    private static void hold(boolean holds, String rule) {
        if (!holds) {
            wrong++;
            System.out.println("broken: " + rule);
        }
    }

    private static String signature(Method m) {
        StringBuilder s = new StringBuilder(m.getReturnType() + " " + m.getName() + "(");
        for (Class<?> p : m.getParameterTypes()) {
            s.append(s.charAt(s.length() - 1) == '(' ? "" : ",").append(p);
        }
        return s.append(")").toString();
    }

    private static void face() {
        Set<String> seen = new TreeSet<>();
        Set<String> names = new HashSet<>();
        for (Method m : WheelPens.class.getDeclaredMethods()) {
            if (Modifier.isPublic(m.getModifiers())) {
                seen.add(signature(m));
                names.add(m.getName());
                List<Class<?>> thrown = Arrays.asList(m.getExceptionTypes());
                hold(thrown.isEmpty() != THROWING.contains(m.getName()), "what is thrown by " + m.getName());
            } else {
                hold(Modifier.isPrivate(m.getModifiers()), "1: a member that is not private: " + m.getName());
            }
        }
        hold(seen.equals(new TreeSet<>(Arrays.asList(FACE))), "1: the face is " + seen);
        for (Constructor<?> c : WheelPens.class.getDeclaredConstructors()) {
            hold(Modifier.isPublic(c.getModifiers()) && c.getParameterCount() == 0, "1: the constructor");
        }
        hold(Modifier.isFinal(WheelPens.class.getModifiers()), "1: the class is final");
        for (Class<?> c : classes()) {
            for (Method m : c.getDeclaredMethods()) {
                hold(c == WheelPens.class && Modifier.isPublic(m.getModifiers()) || !names.contains(m.getName()),
                    "1: a private method has the name of a public one: " + m.getName());
                hold(m.getParameterCount() <= 7, "11: parameters of " + m.getName());
            }
        }
    }

    private static List<Class<?>> classes() {
        List<Class<?>> all = new ArrayList<>(Arrays.asList(WheelPens.class.getDeclaredClasses()));
        all.add(WheelPens.class);
        return all;
    }

    private static void sizes() {
        hold(classes().size() <= 12, "11: classes: " + classes().size());
        for (Class<?> c : classes()) {
            int fields = 0;
            for (Field f : c.getDeclaredFields()) {
                boolean fixed = Modifier.isStatic(f.getModifiers());
                fields += fixed ? 0 : 1;
                hold(!fixed || Modifier.isFinal(f.getModifiers()), "5: a static field that is not final: " + f.getName());
                hold(c != WheelPens.class || f.getName().equals("NONE") || Modifier.isPrivate(f.getModifiers()),
                    "1: a field that is not private: " + f.getName());
            }
            hold(fields <= 20, "11: fields of " + c.getName() + ": " + fields);
            hold(c == WheelPens.class || Modifier.isPrivate(c.getModifiers()) && Modifier.isStatic(c.getModifiers()),
                "1: a class inside that is not private and static: " + c.getName());
        }
    }

    private static void source() throws IOException {
        List<String> lines = Files.readAllLines(Path.of("src/main/java/WheelPens.java"));
        String whole = String.join("\n", lines).replaceAll("(?s)/\\*.*?\\*/", "").replaceAll("//[^\n]*", "");
        for (String word : BANNED) {
            hold(!whole.contains(word), "a word that may not be: " + word);
        }
        Matcher imports = Pattern.compile("import ([^;]*);").matcher(whole);
        while (imports.find()) {
            hold(imports.group(1).equals("java.util.NoSuchElementException"), "4: import of " + imports.group(1));
        }
        Matcher thrown = Pattern.compile("throw [^;]*;").matcher(whole);
        while (thrown.find()) {
            hold(thrown.group().matches("throw new NoSuchElementException\\(\"[^\"]*\"\\);"), "6: " + thrown.group());
        }
        int begun = 0;
        for (int i = 0; i < lines.size(); i++) {
            if (lines.get(i).matches("( {4}| {8})[a-z].*\\) (throws \\w+ )?\\{")) {
                begun = i;
            }
            if (lines.get(i).matches("( {4}| {8})\\}")) {
                hold(i - begun < 60, "11: a method of " + (i - begun + 1) + " lines at line " + (begun + 1));
                begun = i;
            }
        }
    }

    public static void main(String[] args) throws IOException {
        face();
        sizes();
        source();
        System.out.println(wrong == 0 ? "the rules looked at hold" : wrong + " rules are broken");
        if (wrong != 0) {
            System.exit(1);
        }
    }
}
