import java.io.File;
import java.io.IOException;
import java.nio.file.Files;
import java.nio.file.Path;
import java.util.Comparator;
import java.util.List;
import java.util.stream.Stream;

/** Commands run in folders of their own. */
final class Folders {
    /** What a command printed, in its folder. */
    static final String OUTPUT = "output.txt";

    private Folders() {
    }

    static Process start(Path folder, String... command) throws IOException {
        File output = folder.resolve(OUTPUT).toFile();
        return new ProcessBuilder(command).directory(folder.toFile()).redirectErrorStream(true)
                .redirectOutput(output).start();
    }

    /** The command's exit code; what it printed is shown if that is not 0. */
    static int call(Path folder, String... command) throws IOException, InterruptedException {
        int code = start(folder, command).waitFor();
        if (code != 0) {
            System.out.print(Files.readString(folder.resolve(OUTPUT)));
        }
        return code;
    }

    static void remove(Path folder) throws IOException {
        try (Stream<Path> walk = Files.walk(folder)) {
            List<Path> inside = walk.sorted(Comparator.reverseOrder()).toList();
            for (Path path : inside) {
                Files.delete(path);
            }
        }
    }
}
