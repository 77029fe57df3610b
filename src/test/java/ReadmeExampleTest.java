import java.io.IOException;
import java.lang.reflect.Method;
import java.nio.file.Files;
import java.nio.file.Path;
import java.util.HashMap;
import java.util.Map;
import java.util.regex.Matcher;
import java.util.regex.Pattern;

/** Each call of the example in README.md answers the number that its comment begins with. */
public final class ReadmeExampleTest {
    private static final Pattern CALL = Pattern.compile("(?:int (\\w+) = )?x\\.(\\w+)\\((.*)\\); +// (-?\\d+)(:.*)?");
    private static final Checks CHECKS = new Checks("README.md");
    private static final Map<String, Integer> NAMES = new HashMap<>(Map.of("ExtensionStarts.NONE", Acts.NONE));

    public static void main(String[] args) throws IOException, ReflectiveOperationException {
        String text = Files.readString(Path.of("README.md"));
        int from = text.indexOf("```java\n") + "```java\n".length();
        String[] lines = text.substring(from, text.indexOf("```", from)).split("\n");
        CHECKS.holds("it begins with a new object", lines[0].equals("ExtensionStarts x = new ExtensionStarts();"));
        ExtensionStarts x = new ExtensionStarts();
        for (int i = 1; i < lines.length; i++) {
            Matcher call = CALL.matcher(lines[i]);
            CHECKS.holds(lines[i] + " is a call with its answer", call.matches());
            if (call.matches()) {
                answerDue(x, call);
            }
        }
        CHECKS.holds("it has calls", lines.length > 1);
        CHECKS.end();
    }

    private static void answerDue(ExtensionStarts x, Matcher call) throws ReflectiveOperationException {
        int answer = answerOf(x, call.group(2), call.group(3));
        CHECKS.due(call.group(), answer, Integer.parseInt(call.group(4)));
        if (call.group(1) != null) {
            NAMES.put(call.group(1), answer);
        }
    }

    private static int answerOf(ExtensionStarts x, String name, String args) throws ReflectiveOperationException {
        String[] words = args.isEmpty() ? new String[0] : args.split(", ");
        Object[] values = new Object[words.length];
        for (int i = 0; i < words.length; i++) {
            values[i] = valueOf(words[i]);
        }
        for (Method method : ExtensionStarts.class.getMethods()) {
            if (method.getName().equals(name) && method.getParameterCount() == values.length) {
                return (Integer) method.invoke(x, values);
            }
        }
        throw new NoSuchMethodException(name);
    }

    private static Object valueOf(String word) {
        if (word.equals("true") || word.equals("false")) {
            return word.equals("true");
        }
        return NAMES.containsKey(word) ? NAMES.get(word) : (Object) Integer.valueOf(word);
    }
}
