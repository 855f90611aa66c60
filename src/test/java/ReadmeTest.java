import java.io.IOException;
import java.lang.reflect.InvocationTargetException;
import java.lang.reflect.Method;
import java.lang.reflect.Modifier;
import java.nio.file.Files;
import java.nio.file.Path;
import java.util.regex.Matcher;
import java.util.regex.Pattern;

/** README.md shows calls with their answers; they are made here as they stand there, on one object. */
public final class ReadmeTest {
    private static final Pattern SHOWN = Pattern.compile("x\\.(\\w+)\\(([^)]*)\\); +// (-?\\d+): .+");

    public static void main(String[] args) throws IOException {
        Dues.by("README.md says how to use the class");
        BatchBytes x = null;
        for (String line : Files.readAllLines(Path.of("README.md"))) {
            Matcher shown = SHOWN.matcher(line);
            if (line.equals("BatchBytes x = new BatchBytes();")) {
                x = new BatchBytes();
            } else if (shown.matches()) {
                BatchBytes object = x;
                Dues.due(line, () -> answer(object, shown.group(1), shown.group(2)), shown.group(3));
            } else {
                Dues.due(line, line.startsWith("x.") ? "a call without its answer" : "no call", "no call");
            }
        }
        namesEveryCall(Files.readString(Path.of("README.md")));
        Dues.end();
    }

    private static long answer(BatchBytes x, String name, String list) {
        String[] words = list.isEmpty() ? new String[0] : list.split(", *");
        Method method = methodOf(name);
        Object[] arguments = new Object[words.length];
        for (int i = 0; i < words.length; i++) {
            boolean wide = method.getParameterTypes()[i] == long.class;
            arguments[i] = wide ? (Object) Long.valueOf(words[i]) : (Object) Integer.valueOf(words[i]);
        }
        try {
            return ((Number) method.invoke(x, arguments)).longValue();
        } catch (InvocationTargetException | IllegalAccessException e) {
            throw new RuntimeException(e);
        }
    }

    private static Method methodOf(String name) {
        for (Method method : BatchBytes.class.getDeclaredMethods()) {
            if (method.getName().equals(name)) {
                return method;
            }
        }
        throw new RuntimeException("no method " + name);
    }

    private static void namesEveryCall(String readme) {
        for (Method method : BatchBytes.class.getDeclaredMethods()) {
            if (Modifier.isPublic(method.getModifiers())) {
                boolean named = readme.contains("`" + method.getName() + "(");
                Dues.due("README.md names " + method.getName(), named ? "yes" : "no", "yes");
            }
        }
    }
}
