import java.io.IOException;
import java.lang.reflect.InvocationTargetException;
import java.lang.reflect.Method;
import java.lang.reflect.Modifier;
import java.nio.charset.StandardCharsets;
import java.nio.file.Files;
import java.nio.file.Path;
import java.util.ArrayList;
import java.util.List;
import java.util.regex.Matcher;
import java.util.regex.Pattern;

/** README.md tells what is so: every call with its arguments, and the answers of its example. Run from the project. */
public final class ReadmeTest {
    private static final Pattern ANSWERED =
        Pattern.compile("senses\\.(\\w+)\\(([^)]*)\\); +// (-?\\d+|true|false)\\b");
    private static final Pattern CALL = Pattern.compile("^\\| `(\\w+)\\(([^)]*)\\)` \\|", Pattern.MULTILINE);

    public static void main(String[] args) throws IOException, IllegalAccessException, InvocationTargetException {
        String readme = Files.readString(Path.of("README.md"), StandardCharsets.UTF_8);
        everyCallIsNamed(readme);
        theExampleAnswersSo(readme);
        Check.end();
    }

    private static void everyCallIsNamed(String readme) {
        List<String> named = new ArrayList<>();
        Matcher calls = CALL.matcher(readme);
        while (calls.find()) {
            named.add(calls.group(1));
            Method method = byName(calls.group(1));
            Check.due("README: there is " + calls.group(1), method != null, true);
            if (method != null) {
                Check.due("README: arguments of " + calls.group(1), argumentsIn(calls.group(2)).length,
                    method.getParameterCount());
            }
        }
        for (Method method : WordSenses.class.getDeclaredMethods()) {
            if (Modifier.isPublic(method.getModifiers())) {
                Check.due("README names " + method.getName(), named.contains(method.getName()), true);
            }
        }
    }

    private static void theExampleAnswersSo(String readme) throws IllegalAccessException, InvocationTargetException {
        WordSenses senses = new WordSenses();
        int answered = 0;
        Matcher lines = ANSWERED.matcher(readme);
        while (lines.find()) {
            answered++;
            Method method = byName(lines.group(1));
            Check.due("README: the example's " + lines.group(1), method != null, true);
            if (method != null) {
                Object answer = method.invoke(senses, valuesOf(argumentsIn(lines.group(2))));
                Check.due("README: " + lines.group() + " answered " + answer, answer.toString().equals(lines.group(3)),
                    true);
            }
        }
        int calls = readme.split("\nsenses\\.", -1).length - 1;
        Check.due("README: calls of the example that tell their answers", answered, calls);
        Check.due("README: there is an example", calls > 0, true);
    }

    private static Method byName(String name) {
        for (Method method : WordSenses.class.getDeclaredMethods()) {
            if (Modifier.isPublic(method.getModifiers()) && method.getName().equals(name)) {
                return method;
            }
        }
        return null;
    }

    private static String[] argumentsIn(String text) {
        return text.isEmpty() ? new String[0] : text.split(", ");
    }

    private static Object[] valuesOf(String[] texts) {
        Object[] values = new Object[texts.length];
        for (int n = 0; n < texts.length; n++) {
            boolean truth = texts[n].equals("true") || texts[n].equals("false");
            values[n] = truth ? (Object) Boolean.valueOf(texts[n]) : (Object) Integer.valueOf(texts[n]);
        }
        return values;
    }
}
