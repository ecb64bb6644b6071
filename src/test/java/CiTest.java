import java.io.IOException;
import java.nio.file.Files;
import java.nio.file.Path;
import java.nio.file.StandardCopyOption;
import java.util.ArrayList;
import java.util.List;

/** .ci/run ends with 0 if every test passes, and with another code for each way in which one can fail. */
public final class CiTest {
    private static final String PASSES = "System.exit(0);";
    private static final String FAILS = "System.exit(1);";
    private static final String THROWS = "throw new IllegalStateException();";
    private static final String NO_JAVA = "this is no Java";
    private static final Check CHECK = new Check();

    private final List<String> names = new ArrayList<>();
    private final List<Process> runs = new ArrayList<>();
    private final List<Boolean> due = new ArrayList<>();
    private final Path root;

    private CiTest(Path root) {
        this.root = root;
    }

    public static void main(String[] args) throws Exception {
        Path root = Files.createTempDirectory("ci");
        try {
            new CiTest(root).run();
        } finally {
            Folders.remove(root);
        }
        CHECK.end();
    }

    /** The small checkouts run side by side, for each takes some seconds. */
    private void run() throws Exception {
        start("all pass", true, checkout(PASSES, PASSES));
        start("a test of the project fails", false, checkout(FAILS, PASSES));
        start("a test of the project throws", false, checkout(THROWS, PASSES));
        start("a test of the project does not compile", false, checkout(NO_JAVA, PASSES));
        start("a shared test fails", false, checkout(PASSES, FAILS));
        start("a shared test throws", false, checkout(PASSES, THROWS));
        start("a shared test does not compile", false, checkout(PASSES, NO_JAVA));
        start("there is no shared test", false, withoutSharedTests());
        start("the class does not compile", false, withoutClass());
        for (int n = 0; n < runs.size(); n++) {
            CHECK.same(names.get(n) + ": .ci/run ends with 0", runs.get(n).waitFor() == 0, due.get(n));
        }
    }

    private void start(String name, boolean passes, Path main) throws IOException {
        names.add(name);
        due.add(passes);
        runs.add(Folders.start(main, "sh", ".ci/run"));
    }

    /** Of two tests of each kind the first is the one that is told, so that a last one that passes hides nothing. */
    private Path checkout(String projectTest, String sharedTest) throws IOException {
        Path parent = root.resolve("checkout" + names.size());
        Path main = parent.resolve("main");
        Path script = main.resolve(".ci/run");
        Files.createDirectories(script.getParent());
        Files.copy(Path.of(".ci/run"), script, StandardCopyOption.COPY_ATTRIBUTES);
        write(main.resolve("src/main/java/ReelSlitter.java"), "public final class ReelSlitter {\n}\n");
        writeTest(main.resolve("src/test/java"), "ATest", projectTest);
        writeTest(main.resolve("src/test/java"), "BTest", PASSES);
        writeTest(parent.resolve("shared/tests"), "ARuns", sharedTest);
        writeTest(parent.resolve("shared/tests"), "BRuns", PASSES);
        return main;
    }

    private Path withoutSharedTests() throws IOException {
        Path main = checkout(PASSES, PASSES);
        for (String name : new String[] {"ARuns", "BRuns"}) {
            Files.delete(main.resolveSibling("shared/tests/" + name + ".java"));
        }
        return main;
    }

    private Path withoutClass() throws IOException {
        Path main = checkout(PASSES, PASSES);
        write(main.resolve("src/main/java/ReelSlitter.java"), NO_JAVA);
        return main;
    }

    private static void writeTest(Path folder, String name, String body) throws IOException {
        write(folder.resolve(name + ".java"),
                "public class " + name + " {\n    public static void main(String[] args) {\n        new ReelSlitter();\n"
                + "        " + body + "\n    }\n}\n");
    }

    private static void write(Path file, String text) throws IOException {
        Files.createDirectories(file.getParent());
        Files.writeString(file, text);
    }
}
