import java.io.IOException;
import java.lang.reflect.Constructor;
import java.lang.reflect.Field;
import java.lang.reflect.Method;
import java.lang.reflect.Modifier;
import java.nio.file.Files;
import java.nio.file.Path;
import java.util.ArrayList;
import java.util.Arrays;
import java.util.List;
import java.util.TreeSet;
import java.util.regex.Matcher;
import java.util.regex.Pattern;

/** The class has the members that stand in the document's face, and no other that is not private. */
public final class FaceTest {
    private static final Path DOCUMENT = Path.of("../shared/DOC.md");

    public static void main(String[] args) throws Exception {
        Check check = new Check();
        Class<?> c = ReelSlitter.class;
        TreeSet<String> methods = methodsOfTheDocument();
        check.same("methods of the document", methods.size(), 26);
        check.same("modifiers", Modifier.toString(c.getModifiers()), "public final");
        check.same("NONE", (long) ReelSlitter.NONE, -1L);
        check.same("methods", openMethods(c).toString(), methods.toString());
        check.same("fields", openFields(c).toString(), "[public static final int NONE]");
        check.same("constructors", Arrays.toString(c.getDeclaredConstructors()), "[public ReelSlitter()]");
        for (Constructor<?> k : c.getDeclaredConstructors()) {
            check.same("parameters of the constructor", k.getParameterCount(), 0);
        }
        for (Class<?> inner : c.getDeclaredClasses()) {
            int m = inner.getModifiers();
            check.same(inner + " is static", Modifier.isStatic(m), true);
            check.same(inner + " is hidden", Modifier.isPublic(m) || Modifier.isProtected(m), false);
        }
        check.end();
    }

    /** As reflection writes them: without the names of the parameters, and each exception with its package. */
    private static TreeSet<String> methodsOfTheDocument() throws IOException {
        String face = Files.readString(DOCUMENT).replaceAll("(?s).*```java\n(.*?)```.*", "$1");
        TreeSet<String> methods = new TreeSet<>();
        Matcher line = Pattern.compile("(?m)^    public (\\w+ \\w+\\(.*\\).*);$").matcher(face);
        while (line.find()) {
            methods.add(line.group(1).replaceAll("(int|boolean) \\w+(?=[,)])", "$1").replace(", ", ",")
                    .replace("throws ", "throws java.lang."));
        }
        return methods;
    }

    private static TreeSet<String> openMethods(Class<?> c) {
        TreeSet<String> open = new TreeSet<>();
        for (Method m : c.getDeclaredMethods()) {
            if (Modifier.isPrivate(m.getModifiers()) || m.isSynthetic()) {
                continue;
            }
            String text = m.toString().replace("ReelSlitter.", "");
            open.add(text.startsWith("public ") ? text.substring("public ".length()) : text);
        }
        return open;
    }

    private static List<String> openFields(Class<?> c) {
        List<String> open = new ArrayList<>();
        for (Field f : c.getDeclaredFields()) {
            if (!Modifier.isPrivate(f.getModifiers()) && !f.isSynthetic()) {
                open.add(f.toString().replace("ReelSlitter.", ""));
            }
        }
        return open;
    }
}
