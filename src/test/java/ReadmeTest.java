import java.io.IOException;
import java.lang.reflect.Method;
import java.nio.file.Files;
import java.nio.file.Path;
import java.util.HashMap;
import java.util.Map;
import java.util.regex.Matcher;
import java.util.regex.Pattern;

/** README.md: its example answers as it says there, and it tells of every call of the face. */
public final class ReadmeTest {
    private static final Pattern EXAMPLE = Pattern.compile("(?s)```java\n(.*?)```");
    private static final Pattern CALL =
            Pattern.compile("(?:int (\\w+) = )?x\\.(\\w+)\\(([^)]*)\\);\\s*(?://\\s*(-?\\d+):.*|//.*)?");
    private static final Check check = new Check();

    private final PassedDuties x = new PassedDuties();
    private final Map<String, Integer> names = new HashMap<>();
    private int answersTold = 0;

    public static void main(String[] args) throws IOException, ReflectiveOperationException {
        String text = Files.readString(Path.of("README.md"));
        Matcher example = EXAMPLE.matcher(text);
        check.holds("README.md has an example", example.find());
        new ReadmeTest().follow(example.group(1));
        for (Method method : PassedDuties.class.getDeclaredMethods()) {
            boolean isCall = method.toString().startsWith("public ");
            boolean told = Pattern.compile("`" + method.getName() + "\\(").matcher(text).find();
            check.holds("README.md tells of " + method.getName(), told || !isCall);
        }
        check.end();
    }

    private void follow(String example) throws ReflectiveOperationException {
        String[] lines = example.split("\n");
        check.due("the example begins with a new object",
                lines[0].indexOf("PassedDuties x = new PassedDuties();"), 0);
        for (int line = 1; line < lines.length; line++) {
            if (!lines[line].isBlank()) {
                followLine(lines[line].strip());
            }
        }
        check.holds("the example tells answers", answersTold >= 5);
    }

    private void followLine(String line) throws ReflectiveOperationException {
        Matcher call = CALL.matcher(line);
        check.holds("a line of the example can be read: " + line, call.matches());
        int answer = answer(call.group(2), call.group(3));
        if (call.group(1) != null) {
            names.put(call.group(1), answer);
        }
        if (call.group(4) != null) {
            answersTold++;
            check.due("README.md: " + line, answer, Integer.parseInt(call.group(4)));
        }
    }

    private int answer(String name, String told) throws ReflectiveOperationException {
        String[] words = told.isBlank() ? new String[0] : told.split(",\\s*");
        Class<?>[] types = new Class<?>[words.length];
        Object[] numbers = new Object[words.length];
        for (int place = 0; place < words.length; place++) {
            types[place] = int.class;
            numbers[place] = number(words[place]);
        }
        return (Integer) PassedDuties.class.getMethod(name, types).invoke(x, numbers);
    }

    private int number(String word) {
        if (word.startsWith("'")) {
            return word.charAt(1);
        }
        return names.containsKey(word) ? names.get(word) : Integer.parseInt(word);
    }
}
