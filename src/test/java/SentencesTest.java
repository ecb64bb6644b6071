import java.io.File;
import java.lang.reflect.Method;
import java.nio.file.Files;
import java.nio.file.Path;
import java.util.Arrays;
import java.util.LinkedHashMap;
import java.util.Map;
import java.util.regex.Matcher;
import java.util.regex.Pattern;

/** The tests of sentences and the document hold together: each quotes it word by word, and no sentence is left out. */
public final class SentencesTest {
    private static final Path DOCUMENT = Path.of("../shared/DOC.md");
    private static final Check CHECK = new Check();

    public static void main(String[] args) throws Exception {
        Map<String, String> places = placesOf(Files.readString(DOCUMENT));
        CHECK.same("places: the object, 4 paragraphs, 27 promises", places.size(), 32);
        Map<String, String> left = new LinkedHashMap<>(places);
        int classes = 0;
        for (File file : sorted(new File("src/test/java"))) {
            if (file.getName().matches("Boundary.*Test\\.java")) {
                classes++;
                quote(Class.forName(file.getName().replace(".java", "")), places, left);
            }
        }
        CHECK.same("tests of sentences are found", classes > 0, true);
        for (Map.Entry<String, String> e : left.entrySet()) {
            CHECK.same(e.getKey() + ", what no test quotes", e.getValue().replaceAll("[^\\p{L}\\p{N}]+", " ").trim(), "");
        }
        CHECK.end();
    }

    private static File[] sorted(File folder) {
        File[] files = folder.listFiles();
        Arrays.sort(files);
        return files;
    }

    private static void quote(Class<?> tests, Map<String, String> places, Map<String, String> left) {
        for (Method test : Boundaries.testsOf(tests)) {
            String place = Boundaries.placeOf(test);
            String words = test.getAnnotation(Says.class).value();
            CHECK.same(test.getName() + " quotes " + place, places.getOrDefault(place, "").contains(words), true);
            left.computeIfPresent(place, (p, text) -> text.replace(words, "|"));
        }
    }

    private static Map<String, String> placesOf(String document) {
        Map<String, String> places = new LinkedHashMap<>();
        String text = document.replaceAll("```(text)?", " ").replaceAll("\\s+", " ");
        places.put("Object", found(text, "(An object is used .*?) ## The public face")
                + found(text, "The constants: (.*?) ## Promise 1:"));
        places.put("Terms 1", found(text, "## Terms (.*?) ==== 2\\."));
        places.put("Terms 2", found(text, " ==== 2\\. (.*?) ==== 3\\."));
        places.put("Terms 3", found(text, " ==== 3\\. (.*?) ==== 4\\."));
        places.put("Terms 4", found(text, " ==== 4\\. (.*?) The constants:"));
        for (int n = 1; n <= 27; n++) {
            places.put("Promise " + n, found(text, "## Promise " + n + ": [^`]*`[^`]*`: (.*?) ## "));
        }
        return places;
    }

    private static String found(String text, String pattern) {
        Matcher matcher = Pattern.compile(pattern).matcher(text);
        return matcher.find() ? matcher.group(1) : "";
    }
}
