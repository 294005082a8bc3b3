import java.io.IOException;
import java.lang.reflect.InvocationTargetException;
import java.lang.reflect.Method;
import java.lang.reflect.Modifier;
import java.nio.file.Files;
import java.nio.file.Path;
import java.util.regex.Matcher;
import java.util.regex.Pattern;

/** Makes the calls that README.md shows, and compares the answers with those that it tells. */
public final class ReadmeTest {
    private static final Pattern CALL = Pattern.compile("x\\.(\\w+)\\(([^)]*)\\);\\s*// (true|false|-?\\d+|NoSuchElementException)\\b.*");
    private static final String NEW_OBJECT = "SourceTokens x = new SourceTokens();";

    private SourceTokens x = new SourceTokens();
    private int calls = 0;

    public static void main(String[] args) throws IOException, ReflectiveOperationException {
        String readme = Files.readString(Path.of("README.md"));
        ReadmeTest test = new ReadmeTest();
        boolean isCode = false;
        for (String line : readme.split("\n")) {
            if (line.startsWith("```")) {
                isCode = line.equals("```java");
            } else if (isCode) {
                test.run(line.trim());
            }
        }
        Kit.due("whether README.md shows every call", test.calls >= 11 && showsEveryCall(readme), true);
        Kit.finish();
    }

    private static boolean showsEveryCall(String readme) {
        boolean all = true;
        for (Method method : SourceTokens.class.getDeclaredMethods()) {
            boolean isPublic = Modifier.isPublic(method.getModifiers());
            all &= !isPublic || readme.contains("x." + method.getName() + "(");
        }
        return all;
    }

    private void run(String line) throws ReflectiveOperationException {
        if (line.equals(NEW_OBJECT)) {
            x = new SourceTokens();
            return;
        }
        Matcher m = CALL.matcher(line);
        if (m.matches()) {
            calls++;
            Kit.dueText("README.md's " + line, answer(m.group(1), m.group(2)), m.group(3));
        } else {
            Kit.dueText("a line of README.md that is no call with its answer", line, "");
        }
    }

    private String answer(String name, String written) throws ReflectiveOperationException {
        String[] parts = written.isEmpty() ? new String[0] : written.split(", *");
        Object[] values = new Object[parts.length];
        Class<?>[] types = new Class<?>[parts.length];
        for (int n = 0; n < parts.length; n++) {
            values[n] = Long.decode(parts[n]).intValue();
            types[n] = int.class;
        }
        try {
            return String.valueOf(SourceTokens.class.getMethod(name, types).invoke(x, values));
        } catch (InvocationTargetException e) {
            return e.getCause().getClass().getSimpleName();
        }
    }
}
