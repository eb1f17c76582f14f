import java.io.IOException;
import java.lang.reflect.Method;
import java.nio.file.Files;
import java.nio.file.Path;
import java.util.ArrayList;
import java.util.List;
import java.util.regex.Matcher;
import java.util.regex.Pattern;

/** The Java examples of README.md, call by call: the answer that stands behind each is the one that is given. */
public final class ReadmeTest {
    private static final Check CHECK = new Check();
    private static final Pattern MAKING = Pattern.compile("RoundVotes x = new RoundVotes\\((-?\\d+), (-?\\d+)\\);.*");
    private static final Pattern CALL = Pattern.compile("x\\.(\\w+)\\(([-\\d, ]*)\\);\\s*// (-?\\d+|BAD|NONE|FULL)\\b.*");

    private static List<String> exampleLines() throws IOException {
        List<String> lines = new ArrayList<>();
        boolean inside = false;
        for (String line : Files.readAllLines(Path.of("README.md"))) {
            if (line.startsWith("```")) {
                inside = line.equals("```java");
            } else if (inside) {
                lines.add(line);
            }
        }
        return lines;
    }

    private static int answerOf(String text) {
        return switch (text) {
            case "BAD" -> RoundVotes.BAD;
            case "NONE" -> RoundVotes.NONE;
            case "FULL" -> RoundVotes.FULL;
            default -> Integer.parseInt(text);
        };
    }

    private static int call(RoundVotes x, String name, String arguments) throws ReflectiveOperationException {
        String[] texts = arguments.split(", ");
        Object[] numbers = new Object[texts.length];
        Class<?>[] types = new Class<?>[texts.length];
        for (int k = 0; k < texts.length; k++) {
            numbers[k] = Integer.valueOf(texts[k]);
            types[k] = int.class;
        }
        Method method = RoundVotes.class.getMethod(name, types);
        return (Integer) method.invoke(x, numbers);
    }

    public static void main(String[] args) throws IOException, ReflectiveOperationException {
        RoundVotes x = null;
        List<String> called = new ArrayList<>();
        for (String line : exampleLines()) {
            Matcher making = MAKING.matcher(line);
            Matcher call = CALL.matcher(line);
            if (making.matches()) {
                x = new RoundVotes(Integer.parseInt(making.group(1)), Integer.parseInt(making.group(2)));
            } else if (call.matches() && x != null) {
                CHECK.due(line.strip(), call(x, call.group(1), call.group(2)), answerOf(call.group(3)));
                called.add(call.group(1));
            } else {
                CHECK.due("\"" + line + "\" is a call with its answer", 0, 1);
            }
        }
        for (Method method : RoundVotes.class.getDeclaredMethods()) {
            if (java.lang.reflect.Modifier.isPublic(method.getModifiers())) {
                CHECK.due("README.md has a call of " + method.getName(), called.contains(method.getName()) ? 1 : 0, 1);
            }
        }
        CHECK.finish();
    }
}
