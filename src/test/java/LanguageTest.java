import java.lang.reflect.Field;
import java.lang.reflect.Method;
import java.lang.reflect.Modifier;
import java.nio.file.Files;
import java.nio.file.Path;
import java.util.List;
import java.util.Set;
import java.util.TreeSet;
import java.util.regex.Matcher;
import java.util.regex.Pattern;

/** Those rules of LANGUAGE.md that the source's text, read from the project's folder, or the compiled classes show. */
public final class LanguageTest {
    private static final String METHOD = "^ {4,8}(?!return|throw|new|else)[\\w ]*\\w[\\w\\[\\]]* \\w+\\(.*\\).*\\{$";
    private static final String[] BARRED = {
        "\\bimport\\b", "\\bpackage\\b", "->", "::", "\\bfinally\\b", "\\bsynchronized\\b", "\\bassert\\b",
        "\\btry\\b", "\\bcatch\\b", "\\bwhile \\(true\\)", "\\bfor \\(;;\\)", "\\bMath\\.\\w+Exact\\b", "\\bSystem\\b",
        "\\bRandom\\b", "\\bThread\\b", "\\bstatic \\{", "\\bdouble\\b", "\\bfloat\\b", "\\bhashCode\\b"
    };

    public static void main(String[] args) throws Exception {
        Check check = new Check();
        List<String> lines = Files.readAllLines(Path.of("src/main/java/ReelSlitter.java"));
        String code = withoutComments(String.join("\n", lines));
        for (String barred : BARRED) {
            check.same(barred, Pattern.compile(barred).matcher(code).find(), false);
        }
        check.same("at most twelve classes", count(code, "\\bclass \\w+ \\{") <= 12, true);
        check.same("objects are made as fields are, or thrown",
                count(code, "\\bnew\\b"), count(code, "(?m)^    .*\\bfinal [\\w\\[\\]]+ \\w+ = new\\b.*$|\\bthrow new\\b"));
        check.same("names of classes, but for its own", foreignNames(code).toString(), "[ArithmeticException, Math]");
        check.same("Math is asked for max and min alone", count(code, "\\bMath\\.(?!max\\(|min\\()"), 0);
        check.same("one throw, that of share", count(code, "\\bthrow\\b"), 1);
        checkMethods(check, lines);
        checkClass(check, ReelSlitter.class);
        for (Class<?> inner : ReelSlitter.class.getDeclaredClasses()) {
            checkClass(check, inner);
        }
        check.end();
    }

    /** Names written like a class's that stand outside texts and are none of the classes of the file. */
    private static TreeSet<String> foreignNames(String code) {
        TreeSet<String> names = new TreeSet<>();
        Matcher matcher = Pattern.compile("\\b[A-Z]\\w*[a-z]\\w*\\b").matcher(code.replaceAll("\"[^\"\n]*\"", ""));
        while (matcher.find()) {
            names.add(matcher.group());
        }
        names.remove(ReelSlitter.class.getSimpleName());
        for (Class<?> inner : ReelSlitter.class.getDeclaredClasses()) {
            names.remove(inner.getSimpleName());
        }
        return names;
    }

    private static void checkClass(Check check, Class<?> c) {
        int fields = 0;
        for (Field field : c.getDeclaredFields()) {
            String type = field.getType().getName();
            if (Modifier.isStatic(field.getModifiers())) {
                check.same(field + " is a constant", Modifier.isFinal(field.getModifiers()) && type.equals("int"), true);
            } else {
                fields++;
                check.same(field + " is of a type that is allowed",
                        type.matches("int|long|boolean|\\[I|\\[Z|ReelSlitter\\$\\w+"), true);
            }
        }
        check.same(c + " has at most twenty fields", fields <= 20, true);
        Set<String> face = new TreeSet<>();
        for (Method method : ReelSlitter.class.getMethods()) {
            face.add(method.getName());
        }
        for (Method method : c.getDeclaredMethods()) {
            check.same(method + " bears no name of the face",
                    Modifier.isPublic(method.getModifiers()) || !face.contains(method.getName()), true);
        }
    }

    private static String withoutComments(String text) {
        return text.replaceAll("(?s)/\\*.*?\\*/", "").replaceAll("//.*", "");
    }

    private static int count(String code, String pattern) {
        Matcher matcher = Pattern.compile(pattern).matcher(code);
        int n = 0;
        while (matcher.find()) {
            n++;
        }
        return n;
    }

    private static void checkMethods(Check check, List<String> lines) {
        int methods = 0;
        for (int n = 0; n < lines.size(); n++) {
            String line = lines.get(n);
            if (!line.matches(METHOD)) {
                continue;
            }
            methods++;
            String end = line.replaceAll("\\S.*", "") + "}";
            int last = n;
            while (last < lines.size() && !lines.get(last).equals(end)) {
                last++;
            }
            check.same("short: " + line.trim(), last - n <= 60, true);
            check.same("seven parameters at most: " + line.trim(), line.split(",").length <= 7, true);
        }
        check.same("methods are seen", methods > 80, true);
    }
}
