import java.nio.file.Files;
import java.nio.file.Path;
import java.util.List;
import java.util.regex.Matcher;
import java.util.regex.Pattern;

/** Those rules of LANGUAGE.md that the source's text can show. It reads the source from the project's folder. */
public final class LanguageTest {
    private static final String METHOD = "^ {4,8}(?!return|throw|new|else)[\\w ]*\\w[\\w\\[\\]]* \\w+\\(.*\\).*\\{$";
    private static final String[] BARRED = {
        "\\bimport\\b", "\\bpackage\\b", "->", "::", "\\bfinally\\b", "\\bsynchronized\\b", "\\bassert\\b",
        "\\btry\\b", "\\bcatch\\b", "\\bwhile \\(true\\)", "\\bfor \\(;;\\)", "\\bMath\\.\\w+Exact\\b", "\\bSystem\\b",
        "\\bRandom\\b", "\\bThread\\b", "\\bstatic \\{", "\\bdouble\\b", "\\bfloat\\b", "\\bhashCode\\b"
    };

    public static void main(String[] args) throws Exception {
        Check check = new Check();
        List<String> lines = Files.readAllLines(Path.of("src/main/java/ReelSlitter.java"));
        String code = withoutComments(String.join("\n", lines));
        for (String barred : BARRED) {
            check.same(barred, Pattern.compile(barred).matcher(code).find(), false);
        }
        check.same("at most twelve classes", count(code, "\\bclass \\w+ \\{") <= 12, true);
        check.same("objects are made as fields are, or thrown",
                count(code, "\\bnew\\b"), count(code, "(?m)^    .*\\bfinal [\\w\\[\\]]+ \\w+ = new\\b.*$|\\bthrow new\\b"));
        checkMethods(check, lines);
        check.end();
    }

    private static String withoutComments(String text) {
        return text.replaceAll("(?s)/\\*.*?\\*/", "").replaceAll("//.*", "");
    }

    private static int count(String code, String pattern) {
        Matcher matcher = Pattern.compile(pattern).matcher(code);
        int n = 0;
        while (matcher.find()) {
            n++;
        }
        return n;
    }

    private static void checkMethods(Check check, List<String> lines) {
        int methods = 0;
        for (int n = 0; n < lines.size(); n++) {
            String line = lines.get(n);
            if (!line.matches(METHOD)) {
                continue;
            }
            methods++;
            String end = line.replaceAll("\\S.*", "") + "}";
            int last = n;
            while (last < lines.size() && !lines.get(last).equals(end)) {
                last++;
            }
            check.same("short: " + line.trim(), last - n <= 60, true);
            check.same("seven parameters at most: " + line.trim(), line.split(",").length <= 7, true);
        }
        check.same("methods are seen", methods > 80, true);
    }
}
