import java.io.IOException;
import java.lang.reflect.Method;
import java.lang.reflect.Modifier;
import java.nio.file.Files;
import java.nio.file.Path;
import java.util.HashMap;
import java.util.List;
import java.util.Map;
import java.util.regex.Matcher;
import java.util.regex.Pattern;

/** README.md tells how to use the class: its examples are run, line by line, and answer as told. */
public final class ReadmeTest {
    private static final String NEW_OBJECT = "WorthKeeping x = new WorthKeeping();";
    /** A name that is given to the answer, the call, its arguments, and the answer that is due. */
    private static final Pattern CALL =
            Pattern.compile("(?:int (\\w+) = )?x\\.(\\w+)\\((.*)\\);\\s*// (-?\\d+)\\b.*");

    private final Checks checks = new Checks();
    private final Map<String, Integer> names = new HashMap<>();
    private WorthKeeping x = null;

    public static void main(String[] args) throws IOException, ReflectiveOperationException {
        String text = Files.readString(Path.of("README.md"));
        ReadmeTest test = new ReadmeTest();
        test.examples(text.lines().toList());
        test.everyCallIsTold(text);
        test.everyTestIsTold(text);
        test.checks.end();
    }

    private void examples(List<String> lines) throws ReflectiveOperationException {
        boolean inside = false;
        int done = 0;
        for (String line : lines) {
            if (line.startsWith("```")) {
                inside = line.equals("```java");
            } else if (inside) {
                oneLine(line);
                done++;
            }
        }
        checks.isTrue("README.md has examples", done > 0);
    }

    private void oneLine(String line) throws ReflectiveOperationException {
        if (line.equals(NEW_OBJECT)) {
            x = new WorthKeeping();
            names.clear();
            return;
        }
        Matcher call = CALL.matcher(line);
        boolean understood = x != null && call.matches();
        checks.isTrue("an example's line is a call with its answer: " + line, understood);
        if (!understood) {
            return;
        }
        int got = asked(call.group(2), call.group(3));
        checks.due("README.md: " + line, Integer.parseInt(call.group(4)), got);
        if (call.group(1) != null) {
            names.put(call.group(1), got);
        }
    }

    private int asked(String name, String arguments) throws ReflectiveOperationException {
        String[] texts = arguments.isEmpty() ? new String[0] : arguments.split(", ");
        for (Method method : WorthKeeping.class.getDeclaredMethods()) {
            if (method.getName().equals(name) && method.getParameterCount() == texts.length) {
                Object[] values = new Object[texts.length];
                for (int i = 0; i < texts.length; i++) {
                    values[i] = method.getParameterTypes()[i] == boolean.class
                            ? (Object) Boolean.valueOf(texts[i]) : (Object) sum(texts[i]);
                }
                return (Integer) method.invoke(x, values);
            }
        }
        throw new NoSuchMethodException(name);
    }

    private int sum(String text) {
        int all = 0;
        for (String part : text.split(" \\+ ")) {
            all += names.containsKey(part) ? names.get(part) : Integer.parseInt(part);
        }
        return all;
    }

    private void everyCallIsTold(String text) {
        for (Method method : WorthKeeping.class.getDeclaredMethods()) {
            if (Modifier.isPublic(method.getModifiers())) {
                checks.isTrue("README.md tells " + method.getName(), text.contains("`" + method.getName() + "("));
            }
        }
    }

    private void everyTestIsTold(String text) throws IOException {
        try (var files = Files.list(Path.of("src/test/java"))) {
            files.map(file -> file.getFileName().toString().replace(".java", ""))
                    .forEach(name -> checks.isTrue("README.md tells " + name, text.contains("`" + name + "`")));
        }
    }
}
