import java.lang.reflect.Method;
import java.nio.file.Files;
import java.nio.file.Path;
import java.util.ArrayList;
import java.util.List;
import java.util.TreeSet;
import java.util.regex.Matcher;
import java.util.regex.Pattern;

/** What README.md tells is so: its example is Java and answers what stands behind it, its tests are those there are. */
public final class ReadmeTest {
    private static final Check CHECK = new Check();
    private static final Pattern CALL =
            Pattern.compile("(?:(?:int|long|boolean) (\\w+) = )?(desk\\.(\\w+)\\([^;]*\\));(?: +// (.+))?");

    public static void main(String[] args) throws Exception {
        String readme = Files.readString(Path.of("README.md"));
        checkExample(blockOf(readme, "java"));
        checkTests(readme);
        CHECK.end();
    }

    private static String blockOf(String readme, String language) {
        Matcher block = Pattern.compile("(?s)```" + language + "\n(.*?)```").matcher(readme);
        CHECK.same("README.md has a block of " + language, block.find(), true);
        String text = block.group(1);
        CHECK.same("README.md has one block of " + language, block.find(), false);
        return text;
    }

    /** Runs the example with a line printed behind each call, and compares what is printed with what is told. */
    private static void checkExample(String example) throws Exception {
        List<String> calls = new ArrayList<>();
        List<String> told = new ArrayList<>();
        StringBuilder body = new StringBuilder();
        for (String line : example.split("\n")) {
            Matcher call = CALL.matcher(line);
            if (!call.matches()) {
                CHECK.same("no call: " + line, line.matches("|// .*|ReelSlitter desk = new ReelSlitter\\(\\);"), true);
                body.append(line).append('\n');
            } else if (isVoid(call.group(3))) {
                CHECK.same("no answer is told: " + line, call.group(4) == null, true);
                body.append(line).append('\n');
            } else {
                calls.add(line);
                told.add(answerToldIn(line, call.group(4)));
                body.append(printed(line, call)).append('\n');
            }
        }
        compare(calls, told, run(body.toString()));
    }

    private static boolean isVoid(String name) {
        for (Method m : ReelSlitter.class.getMethods()) {
            if (m.getName().equals(name)) {
                return m.getReturnType() == void.class;
            }
        }
        return false;
    }

    private static String answerToldIn(String line, String comment) {
        Matcher answer = Pattern.compile("(true|false|-?\\d+)(: .+)?").matcher(comment == null ? "" : comment);
        CHECK.same("an answer is told: " + line, answer.matches(), true);
        return answer.matches() ? answer.group(1) : "";
    }

    private static String printed(String line, Matcher call) {
        String name = call.group(1);
        return name == null ? "System.out.println(" + call.group(2) + ");" : line + "\nSystem.out.println(" + name + ");";
    }

    private static List<String> run(String body) throws Exception {
        Path folder = Files.createTempDirectory("readme");
        String path = System.getProperty("java.class.path");
        try {
            Path source = folder.resolve("Example.java");
            Files.writeString(source, "final class Example {\npublic static void main(String[] args) {\n" + body + "}\n}\n");
            CHECK.same("javac of the example", Folders.call(folder, "javac", "-cp", absolute(path), "Example.java"), 0);
            CHECK.same("java of the example",
                    Folders.call(folder, "java", "-cp", absolute(path) + ":" + folder, "Example"), 0);
            return Files.readAllLines(folder.resolve(Folders.OUTPUT));
        } finally {
            Folders.remove(folder);
        }
    }

    private static String absolute(String classPath) {
        List<String> folders = new ArrayList<>();
        for (String folder : classPath.split(":")) {
            folders.add(Path.of(folder).toAbsolutePath().toString());
        }
        return String.join(":", folders);
    }

    private static void compare(List<String> calls, List<String> told, List<String> answers) {
        CHECK.same("calls with an answer are found", calls.size() > 20, true);
        CHECK.same("answers of the example", answers.size(), calls.size());
        for (int n = 0; n < Math.min(calls.size(), answers.size()); n++) {
            CHECK.same(calls.get(n), answers.get(n), told.get(n));
        }
    }

    private static void checkTests(String readme) throws Exception {
        CHECK.same("how to run the tests", blockOf(readme, "sh").trim(), ".ci/run");
        CHECK.same(".ci/run can be run", Files.isExecutable(Path.of(".ci/run")), true);
        TreeSet<String> told = new TreeSet<>();
        Matcher name = Pattern.compile("(?m)^- `(\\w+(?:\\.\\.)?Test)`: ").matcher(readme);
        while (name.find()) {
            told.add(name.group(1));
        }
        TreeSet<String> there = new TreeSet<>();
        for (String file : new java.io.File("src/test/java").list()) {
            if (file.endsWith("Test.java")) {
                there.add(file.replace(".java", "").replaceAll("^Boundary.*", "Boundary..Test"));
            }
        }
        CHECK.same("tests told in README.md", told.toString(), there.toString());
    }
}
