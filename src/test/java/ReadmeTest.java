import java.io.IOException;
import java.lang.reflect.Method;
import java.lang.reflect.Modifier;
import java.nio.file.Files;
import java.nio.file.Path;
import java.util.regex.Matcher;
import java.util.regex.Pattern;

/** README.md tells of every call, and its example is answered as it says. */
public final class ReadmeTest {
    private static final Pattern TEXT = Pattern.compile("\"([TG0-9]+)\"\\.toCharArray\\(\\)");
    private static final Pattern CALL = Pattern.compile("(?m)^table\\.(\\w+)\\(([^)]*)\\); +// (-?\\d+|LeafTable\\.\\w+)");
    private static final Pattern TEST = Pattern.compile("(?m)^\\| `(\\w+Test)` \\|");
    private static final int LEAST_CALLS = 20;

    private final Check check = new Check();
    private final String readme;

    private ReadmeTest(String readme) {
        this.readme = readme;
    }

    public static void main(String[] args) throws IOException, ReflectiveOperationException {
        ReadmeTest test = new ReadmeTest(Files.readString(Path.of("README.md")));
        test.tellsEveryCall();
        test.tellsEveryTest();
        test.example();
        test.check.end("ReadmeTest");
    }

    private void tellsEveryCall() {
        for (Method method : LeafTable.class.getDeclaredMethods()) {
            boolean isFace = Modifier.isPublic(method.getModifiers());
            boolean isTold = readme.contains("| `" + method.getName() + "(");
            check.due("README.md tells of " + method.getName(), !isFace || isTold ? 1 : 0, 1);
        }
    }

    private void tellsEveryTest() throws IOException {
        Matcher told = TEST.matcher(readme);
        while (told.find()) {
            check.due(told.group(1) + " is there", Files.exists(testNamed(told.group(1))) ? 1 : 0, 1);
        }
        try (var files = Files.newDirectoryStream(testNamed("*").getParent(), "*Test.java")) {
            for (Path file : files) {
                String name = file.getFileName().toString().replace(".java", "");
                check.due("README.md tells of " + name, readme.contains("| `" + name + "` |") ? 1 : 0, 1);
            }
        }
    }

    private static Path testNamed(String name) {
        return Path.of("src/test/java", name + ".java");
    }

    private void example() throws ReflectiveOperationException {
        Matcher text = TEXT.matcher(readme);
        check.due("the example has a text", text.find() ? 1 : 0, 1);
        LeafTable table = Check.written(text.group(1));
        Matcher call = CALL.matcher(readme);
        int calls = 0;
        while (call.find()) {
            calls++;
            String told = call.group(1) + "(" + call.group(2) + ")";
            check.due(told, answer(table, call.group(1), call.group(2)), wanted(call.group(3)));
        }
        check.due("the example has calls", calls >= LEAST_CALLS ? 1 : 0, 1);
    }

    private static long wanted(String told) throws ReflectiveOperationException {
        int dot = told.indexOf('.');
        return dot < 0 ? Long.parseLong(told) : LeafTable.class.getField(told.substring(dot + 1)).getInt(null);
    }

    private static long answer(LeafTable table, String name, String told) throws ReflectiveOperationException {
        String[] words = told.isEmpty() ? new String[0] : told.split(", ");
        for (Method method : LeafTable.class.getMethods()) {
            if (method.getName().equals(name) && method.getParameterCount() == words.length) {
                Object[] arguments = new Object[words.length];
                for (int i = 0; i < words.length; i++) {
                    arguments[i] = argument(method.getParameterTypes()[i], words[i]);
                }
                return ((Number) method.invoke(table, arguments)).longValue();
            }
        }
        throw new NoSuchMethodException(name + "(" + told + ")");
    }

    private static Object argument(Class<?> type, String word) {
        if (type == boolean.class) {
            return Boolean.valueOf(word);
        }
        if (type == long.class) {
            return Long.valueOf(word);
        }
        return Integer.valueOf(word);
    }
}
