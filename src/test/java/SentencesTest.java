import java.io.IOException;
import java.lang.reflect.Method;
import java.nio.file.Files;
import java.nio.file.Path;
import java.util.regex.Matcher;
import java.util.regex.Pattern;

/** Each test that src/test/SENTENCES.md names for a sentence of the document is there. */
public final class SentencesTest {
    private static final Check CHECK = new Check();
    private static final Pattern NAME = Pattern.compile("`(\\w+Test)(?:\\.(\\w+))?`");

    private static boolean isThere(String className, String method) {
        try {
            Class<?> type = Class.forName(className);
            if (method == null) {
                return true;
            }
            for (Method each : type.getDeclaredMethods()) {
                if (each.getName().equals(method)) {
                    return true;
                }
            }
            return false;
        } catch (ClassNotFoundException absent) {
            return false;
        }
    }

    public static void main(String[] args) throws IOException {
        for (String line : Files.readAllLines(Path.of("src/test/SENTENCES.md"))) {
            if (line.startsWith("| ") && !line.startsWith("| sentence") && !line.startsWith("| ---")) {
                String[] cells = line.split("\\|");
                Matcher names = NAME.matcher(cells[cells.length - 1]);
                int count = 0;
                while (names.find()) {
                    CHECK.due(names.group() + " is there", isThere(names.group(1), names.group(2)) ? 1 : 0, 1);
                    count++;
                }
                CHECK.due("a test is named for:" + cells[1], count > 0 ? 1 : 0, 1);
            }
        }
        CHECK.finish();
    }
}
