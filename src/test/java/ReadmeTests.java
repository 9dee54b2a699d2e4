import java.io.IOException;
import java.lang.reflect.Method;
import java.lang.reflect.Modifier;
import java.nio.charset.StandardCharsets;
import java.nio.file.Files;
import java.nio.file.Path;
import java.util.regex.Matcher;
import java.util.regex.Pattern;

/** The example of README.md: its text is taken, and each call of its table answers what stands there. */
public final class ReadmeTests extends Checks {
    private static final Pattern TEXT = Pattern.compile("(?s)```text\n(.*?)\n```");
    private static final Pattern CALL = Pattern.compile("(?m)^\\| `(\\w+)\\(([^)]*)\\)` \\| (-?\\d+) \\|");

    private static String exampleText(String readme) {
        Matcher found = TEXT.matcher(readme);
        return found.find() ? found.group(1).replace('\n', ' ') : "";
    }

    private static Object[] numbers(String listed) {
        String[] parts = listed.isEmpty() ? new String[0] : listed.split(", ");
        Object[] numbers = new Object[parts.length];
        for (int i = 0; i < parts.length; i++) {
            numbers[i] = Integer.valueOf(parts[i]);
        }
        return numbers;
    }

    private static long answer(TwoHands hands, String name, Object[] numbers) throws ReflectiveOperationException {
        for (Method method : TwoHands.class.getMethods()) {
            if (method.getName().equals(name) && method.getParameterCount() == numbers.length) {
                return ((Number) method.invoke(hands, numbers)).longValue();
            }
        }
        return MIN;
    }

    private static void example(String readme) throws ReflectiveOperationException {
        sentence("README: the example's text is taken");
        String text = exampleText(readme);
        TwoHands hands = new TwoHands();
        due("tell", tellText(hands, text), 14);
        sentence("README: the example's calls");
        int calls = 0;
        Matcher found = CALL.matcher(readme);
        while (found.find()) {
            String call = found.group(1) + "(" + found.group(2) + ")";
            due(call, answer(hands, found.group(1), numbers(found.group(2))), Long.parseLong(found.group(3)));
            calls++;
        }
        due("calls of the table", calls, readme.lines().filter(line -> line.startsWith("| `")).count());
        sentence("README: every call of the face is named");
        for (Method method : TwoHands.class.getDeclaredMethods()) {
            boolean isOfFace = Modifier.isPublic(method.getModifiers());
            boolean isNamed = Pattern.compile("`" + method.getName() + "[`(]").matcher(readme).find();
            due(method.getName(), isNamed || !isOfFace ? 1 : 0, 1);
        }
    }

    public static void main(String[] args) throws IOException, ReflectiveOperationException {
        example(Files.readString(Path.of("README.md"), StandardCharsets.UTF_8));
        end("readme");
    }
}
