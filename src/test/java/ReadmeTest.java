import java.io.IOException;
import java.lang.reflect.Field;
import java.lang.reflect.Method;
import java.lang.reflect.Modifier;
import java.nio.file.Files;
import java.nio.file.Path;
import java.util.HashSet;
import java.util.Set;
import java.util.regex.Matcher;
import java.util.regex.Pattern;

/** README.md: the answers in its example are those of the class, and no call or constant is left out. */
public final class ReadmeTest {
    private static final Path README = Path.of("README.md");
    private static final Pattern EXAMPLE =
        Pattern.compile("(?m)^counts\\.(\\w+)\\((.*?)\\); +// (-?\\d+|[A-Z]+)\\b");
    private static final Pattern CALL_ROW = Pattern.compile("(?m)^\\| `(\\w+)\\(([^)]*)\\)` \\|");
    private static final Pattern CONSTANT_ROW = Pattern.compile("(?m)^\\| `(\\w+)` \\| (-\\d+) \\|");
    private static final int LEAST_EXAMPLES = 20;

    private final Check check = new Check();
    private final String text = Files.readString(README);

    private ReadmeTest() throws IOException {
    }

    public static void main(String[] args) throws IOException, ReflectiveOperationException {
        ReadmeTest test = new ReadmeTest();
        test.examples();
        test.calls();
        test.constants();
        test.check.isTrue("tells the limit of calls", test.text.contains("at most 512 calls"));
        test.check.isTrue("tells how to make an object", test.text.contains("new StreamCounts()"));
        test.check.isTrue("tells how to run the tests", test.text.contains(".ci/run"));
        test.check.end();
    }

    private void examples() throws ReflectiveOperationException {
        StreamCounts counts = new StreamCounts();
        Matcher example = EXAMPLE.matcher(text);
        int found = 0;
        while (example.find()) {
            Method call = method(example.group(1));
            Number answer = (Number) call.invoke(counts, numbers(call, example.group(2)));
            check.due(example.group(), answer.longValue(), answerOf(example.group(3)));
            found++;
        }
        check.isTrue("examples " + found, found >= LEAST_EXAMPLES);
        check.due("each line of the example is one", found, text.split("\ncounts\\.").length - 1);
    }

    private static Method method(String name) throws NoSuchMethodException {
        for (Method method : StreamCounts.class.getDeclaredMethods()) {
            if (Modifier.isPublic(method.getModifiers()) && method.getName().equals(name)) {
                return method;
            }
        }
        throw new NoSuchMethodException(name);
    }

    private static Object[] numbers(Method call, String list) {
        String[] texts = list.isEmpty() ? new String[0] : list.split(", ");
        Object[] numbers = new Object[texts.length];
        for (int i = 0; i < texts.length; i++) {
            boolean isLong = call.getParameterTypes()[i] == long.class;
            long number = number(texts[i].replace("L", ""));
            numbers[i] = isLong ? (Object) number : (Object) (int) number;
        }
        return numbers;
    }

    private static long number(String text) {
        return text.startsWith("0b") ? Long.parseLong(text.substring(2), 2) : Long.parseLong(text);
    }

    private static long answerOf(String text) throws ReflectiveOperationException {
        return Character.isLetter(text.charAt(0)) ? StreamCounts.class.getField(text).getInt(null) : number(text);
    }

    private void calls() throws ReflectiveOperationException {
        Set<String> named = new HashSet<>();
        Matcher row = CALL_ROW.matcher(text);
        while (row.find()) {
            named.add(row.group(1));
            int parameters = row.group(2).isEmpty() ? 0 : row.group(2).split(", ").length;
            check.due(row.group() + " takes", parameters, method(row.group(1)).getParameterCount());
        }
        for (Method method : StreamCounts.class.getDeclaredMethods()) {
            if (Modifier.isPublic(method.getModifiers())) {
                check.isTrue("names " + method.getName(), named.contains(method.getName()));
            }
        }
    }

    private void constants() throws ReflectiveOperationException {
        Set<String> named = new HashSet<>();
        Matcher row = CONSTANT_ROW.matcher(text);
        while (row.find()) {
            named.add(row.group(1));
            check.due(row.group(), Long.parseLong(row.group(2)), answerOf(row.group(1)));
        }
        for (Field field : StreamCounts.class.getFields()) {
            check.isTrue("names " + field.getName(), named.contains(field.getName()));
        }
    }
}
