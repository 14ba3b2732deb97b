import java.io.IOException;
import java.lang.reflect.InvocationTargetException;
import java.lang.reflect.Method;
import java.nio.file.Files;
import java.nio.file.Path;
import java.util.regex.Matcher;
import java.util.regex.Pattern;

/** The README: its examples are run line by line, and its table names every method of the face. */
public final class ReadmeTest {
    private static final String BEGIN = "StorageQuotas quotas = new StorageQuotas();";
    private static final Pattern CALL =
            Pattern.compile("quotas\\.(\\w+)\\((.*)\\); +// (throws \\w+|-?\\d+)(: .*)?");
    private static final Pattern TEXT =
            Pattern.compile("for \\(char c : \"(.*)\"\\.toCharArray\\(\\)\\) quotas\\.appendText\\(c\\);");

    private StorageQuotas quotas = null;
    private int calls = 0;

    public static void main(String[] args) throws IOException {
        String page = Files.readString(Path.of("README.md"));
        ReadmeTest test = new ReadmeTest();
        boolean inside = false;
        for (String line : page.split("\n")) {
            if (line.startsWith("```")) {
                inside = line.equals("```java");
            } else if (inside) {
                test.run(line);
            }
        }
        Check.is("there are examples", test.calls > 20, true);
        for (Method method : StorageQuotas.class.getMethods()) {
            if (method.getDeclaringClass() == StorageQuotas.class) {
                Check.is("the page names " + method.getName(), page.contains("`" + method.getName() + "`"), true);
            }
        }
        Check.end();
    }

    private void run(String line) {
        Matcher call = CALL.matcher(line);
        Matcher text = TEXT.matcher(line);
        if (line.equals(BEGIN)) {
            quotas = new StorageQuotas();
        } else if (call.matches()) {
            calls++;
            Check.isSame(line, answerOf(call.group(1), call.group(2).split(", ")), call.group(3));
        } else if (text.matches()) {
            for (char c : text.group(1).toCharArray()) {
                quotas.appendText(c);
            }
        } else {
            Check.isSame("a line of the README", line, "one that can be run");
        }
    }

    private String answerOf(String name, String[] words) {
        for (Method method : StorageQuotas.class.getMethods()) {
            if (method.getName().equals(name)) {
                try {
                    return "" + method.invoke(quotas, numbersOf(method.getParameterTypes(), words));
                } catch (InvocationTargetException e) {
                    return "throws " + e.getCause().getClass().getSimpleName();
                } catch (ReflectiveOperationException e) {
                    return "" + e;
                }
            }
        }
        return "no such method";
    }

    private static Object[] numbersOf(Class<?>[] types, String[] words) throws ReflectiveOperationException {
        Object[] numbers = new Object[types.length];
        for (int i = 0; i < types.length; i++) {
            numbers[i] = types[i] == boolean.class ? (Object) Boolean.valueOf(words[i]) : numberOf(words[i]);
        }
        return numbers;
    }

    private static Integer numberOf(String word) throws ReflectiveOperationException {
        if (word.startsWith("StorageQuotas.")) {
            return StorageQuotas.class.getField(word.substring("StorageQuotas.".length())).getInt(null);
        }
        return word.startsWith("'") ? Integer.valueOf(word.charAt(1)) : Integer.valueOf(word);
    }
}
