import java.lang.reflect.Method;
import java.lang.reflect.Modifier;
import java.nio.file.Files;
import java.nio.file.Path;
import java.util.regex.Matcher;
import java.util.regex.Pattern;

/** What README.md tells of answers is so, and it names every call; run from the project's folder. */
public final class ReadmeTest {
    private static final Pattern LINE = Pattern.compile("^crane\\.(\\w+)\\((.*)\\); +// (-?\\d+).*$");
    private static final Pattern TEXT =
        Pattern.compile("^for \\(char letter : \"(.*)\"\\.toCharArray\\(\\)\\) crane\\.feed\\(letter\\); +// (\\d+).*$");
    private static final Due due = new Due();

    private static Object argument(Class<?> type, String text) {
        if (type == boolean.class) {
            return Boolean.valueOf(text);
        }
        return type == long.class ? (Object) Long.valueOf(text) : (Object) Integer.valueOf(text);
    }

    private static long call(CranePads crane, String name, String arguments) throws Exception {
        String[] texts = arguments.isEmpty() ? new String[0] : arguments.split(", ");
        for (Method method : CranePads.class.getMethods()) {
            Class<?>[] types = method.getParameterTypes();
            if (method.getName().equals(name) && types.length == texts.length) {
                Object[] values = new Object[texts.length];
                for (int i = 0; i < values.length; i++) {
                    values[i] = argument(types[i], texts[i]);
                }
                return ((Number) method.invoke(crane, values)).longValue();
            }
        }
        throw new IllegalArgumentException("README.md has a call that isn't there: " + name);
    }

    private static void examples(String[] lines) throws Exception {
        CranePads crane = null;
        int calls = 0;
        for (String line : lines) {
            Matcher told = LINE.matcher(line);
            Matcher fed = TEXT.matcher(line);
            if (line.equals("CranePads crane = new CranePads();")) {
                crane = new CranePads();
            } else if (told.matches() && crane != null) {
                calls++;
                due.is("README.md: " + line, call(crane, told.group(1), told.group(2)), Long.parseLong(told.group(3)));
            } else if (fed.matches() && crane != null) {
                calls++;
                due.is("README.md: " + line, Due.feed(crane, fed.group(1)), Long.parseLong(fed.group(2)));
            } else {
                due.is("README.md, a line that tells no answer: " + line, line.contains("crane.") ? 1 : 0, 0);
            }
        }
        due.is("README.md has examples", calls > 0 ? 1 : 0, 1);
    }

    private static void everyCallIsNamed(String text) {
        for (Method method : CranePads.class.getDeclaredMethods()) {
            if (Modifier.isPublic(method.getModifiers())) {
                due.is("README.md names " + method.getName(), text.contains("| `" + method.getName() + "(") ? 1 : 0, 1);
            }
        }
    }

    private static void everyTestIsNamed(String text) throws Exception {
        try (var files = Files.list(Path.of("src", "test", "java"))) {
            for (Path file : (Iterable<Path>) files::iterator) {
                String name = file.getFileName().toString().replace(".java", "");
                due.is("README.md names " + name, text.contains(name) ? 1 : 0, 1);
            }
        }
    }

    public static void main(String[] args) throws Exception {
        String text = Files.readString(Path.of("README.md"));
        examples(text.split("\n"));
        everyCallIsNamed(text);
        everyTestIsNamed(text);
        due.end();
    }
}
