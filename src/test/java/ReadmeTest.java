import java.io.IOException;
import java.lang.reflect.Method;
import java.lang.reflect.Modifier;
import java.nio.file.Files;
import java.nio.file.Path;
import java.util.Map;
import java.util.Set;
import java.util.TreeMap;
import java.util.TreeSet;
import java.util.regex.Matcher;
import java.util.regex.Pattern;

/** Runs the example of README.md, so that what it tells of the class stays true. */
public final class ReadmeTest {
    private static final Pattern EXAMPLE = Pattern.compile("(?s)```java\n(.*?)```");
    private static final Pattern CALL =
        Pattern.compile("x\\.(\\w+)\\(([-0-9, ]*)\\); +// (-?\\d+|true|false)?.*");

    private final Map<String, Method> methods = new TreeMap<>();
    private final Set<String> used = new TreeSet<>();
    private final LoadPress x = new LoadPress();

    private ReadmeTest() {
        for (Method method : LoadPress.class.getDeclaredMethods()) {
            if (Modifier.isPublic(method.getModifiers())) {
                methods.put(method.getName(), method);
            }
        }
    }

    public static void main(String[] args) throws IOException, ReflectiveOperationException {
        String readme = Files.readString(Path.of("README.md"));
        Check.due("README.md names .ci/run", readme.contains("\n.ci/run\n"), true);
        Matcher example = EXAMPLE.matcher(readme);
        Check.due("README.md has an example", example.find(), true);
        if (!Check.hasWrong()) {
            new ReadmeTest().run(example.group(1).split("\n"));
        }
        Check.end();
    }

    private void run(String[] lines) throws ReflectiveOperationException {
        Check.due("it begins with a new object", lines[0].equals("LoadPress x = new LoadPress();"), true);
        for (int i = 1; i < lines.length; i++) {
            Matcher call = CALL.matcher(lines[i]);
            boolean isCall = call.matches() && methods.containsKey(call.group(1));
            Check.due("a call of the face: " + lines[i], isCall, true);
            if (isCall) {
                compare(lines[i], methods.get(call.group(1)), call);
            }
        }
        Check.due("calls that are used: " + used, used.equals(methods.keySet()), true);
    }

    private void compare(String line, Method method, Matcher call) throws ReflectiveOperationException {
        used.add(method.getName());
        Object answer = method.invoke(x, numbers(call.group(2)));
        boolean isTold = String.valueOf(answer).equals(String.valueOf(call.group(3)));
        Check.due(line + " (it was " + answer + "): as told", isTold, true);
    }

    private static Object[] numbers(String list) {
        String[] words = list.isBlank() ? new String[0] : list.split(", *");
        Object[] numbers = new Object[words.length];
        for (int i = 0; i < words.length; i++) {
            numbers[i] = Integer.valueOf(words[i].trim());
        }
        return numbers;
    }
}
