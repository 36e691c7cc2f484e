import java.io.IOException;
import java.lang.reflect.InvocationTargetException;
import java.lang.reflect.Method;
import java.nio.file.Files;
import java.nio.file.Path;
import java.util.TreeSet;
import java.util.regex.Matcher;
import java.util.regex.Pattern;

/** README.md's example: each call there answers what stands behind it, and each text there is fed. */
public final class ReadmeTest {
    private static final Checks CHECKS = new Checks("ReadmeTest");
    private static final Pattern CALL = Pattern.compile("farm\\.(\\w+)\\(([-\\d, ]*)\\); +// (-?\\d+)(:.*)?");
    private static final Pattern FED = Pattern.compile("for \\(char letter : \"(.*)\"\\.toCharArray\\(\\)\\) \\{");
    private static final TreeSet<String> CALLED = new TreeSet<>();

    public static void main(String[] args) throws IOException, ReflectiveOperationException {
        String readme = Files.readString(Path.of("README.md"));
        Matcher example = Pattern.compile("(?s)```java\n(.*?)```").matcher(readme);
        CHECKS.due("an example stands there", 1, example.find() ? 1 : 0);
        LaidByArgument farm = new LaidByArgument();
        for (String line : example.group(1).split("\n")) {
            follow(farm, line.trim());
        }
        CHECKS.due("of each part of the interface: " + CALLED, 1, CALLED.size() > 20 ? 1 : 0);
        constants(readme);
        CHECKS.end();
    }

    private static void follow(LaidByArgument farm, String line) throws ReflectiveOperationException {
        Matcher call = CALL.matcher(line);
        Matcher fed = FED.matcher(line);
        if (call.matches()) {
            CHECKS.due(line, Long.parseLong(call.group(3)), answer(farm, call.group(1), call.group(2)));
        } else if (fed.matches()) {
            Checks.feedAll(farm, fed.group(1));
        } else {
            boolean known = line.isEmpty() || line.startsWith("// ") || line.equals("}")
                || line.equals("farm.feed(letter);") || line.equals("LaidByArgument farm = new LaidByArgument();");
            CHECKS.due("a line that is no call: " + line, 1, known ? 1 : 0);
        }
    }

    private static long answer(LaidByArgument farm, String name, String numbers) throws ReflectiveOperationException {
        String[] said = numbers.isBlank() ? new String[0] : numbers.split(", ");
        Object[] arguments = new Object[said.length];
        Class<?>[] types = new Class<?>[said.length];
        for (int i = 0; i < said.length; i++) {
            arguments[i] = Integer.valueOf(said[i]);
            types[i] = int.class;
        }
        Method method = LaidByArgument.class.getMethod(name, types);
        CALLED.add(name);
        try {
            return ((Number) method.invoke(farm, arguments)).longValue();
        } catch (InvocationTargetException thrown) {
            throw new IllegalStateException("no call throws: " + name, thrown);
        }
    }

    private static void constants(String readme) throws ReflectiveOperationException {
        Matcher row = Pattern.compile("\\| `(\\w+)` (-\\d+) \\|").matcher(readme);
        int rows = 0;
        while (row.find()) {
            rows++;
            int constant = LaidByArgument.class.getField(row.group(1)).getInt(null);
            CHECKS.due(row.group(1), Long.parseLong(row.group(2)), constant);
        }
        CHECKS.due("constants told", 4, rows);
    }
}
