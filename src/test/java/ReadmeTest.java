import java.io.IOException;
import java.lang.reflect.InvocationTargetException;
import java.lang.reflect.Method;
import java.nio.charset.StandardCharsets;
import java.nio.file.Files;
import java.nio.file.Path;
import java.util.HashSet;
import java.util.List;
import java.util.Set;
import java.util.regex.Matcher;
import java.util.regex.Pattern;

/** Each call that README.md shows answers the number behind it; how to run the tests names each of them. */
final class ReadmeTest {
    private static final Pattern NEW = Pattern.compile("EventCounters x = new EventCounters\\(\\);");
    private static final Pattern TELL = Pattern.compile("tell\\(x, \"([^\"]*)\"\\);.*");
    private static final Pattern CALL = Pattern.compile("x\\.(\\w+)\\(([-0-9, ]*)\\);.*");
    private static final Pattern WANT = Pattern.compile(".*; *// (-?[0-9]+)(:.*)?");

    private ReadmeTest() {
    }

    public static void main(String[] args) throws IOException, ReflectiveOperationException {
        List<String> readme = Files.readAllLines(Path.of("README.md"), StandardCharsets.UTF_8);
        EventCounters x = new EventCounters();
        Set<String> shown = new HashSet<>();
        for (String row : readme) {
            Matcher tell = TELL.matcher(row);
            Matcher call = CALL.matcher(row);
            if (NEW.matcher(row).matches()) {
                x = new EventCounters();
            } else if (tell.matches()) {
                Due.due(row, Due.tell(x, tell.group(1)), want(row));
            } else if (call.matches()) {
                shown.add(call.group(1));
                Due.due(row, answer(x, call.group(1), call.group(2)), want(row));
            }
        }
        Due.due("calls that are shown, thirty or more", shown.size() >= 30 ? 1 : 0, 1);
        namesEachTest(String.join("\n", readme));
        Due.close();
    }

    private static long want(String row) {
        Matcher want = WANT.matcher(row);
        Due.due("an answer stands behind " + row, want.matches() ? 1 : 0, 1);
        return want.matches() ? Long.parseLong(want.group(1)) : 0;
    }

    private static long answer(EventCounters x, String name, String numbers)
            throws IllegalAccessException, InvocationTargetException {
        String[] parts = numbers.isEmpty() ? new String[0] : numbers.split(", ");
        Object[] values = new Object[parts.length];
        for (int i = 0; i < parts.length; i++) {
            values[i] = Integer.valueOf(parts[i]);
        }
        for (Method method : EventCounters.class.getMethods()) {
            if (method.getName().equals(name) && method.getParameterCount() == values.length) {
                return ((Number) method.invoke(x, values)).longValue();
            }
        }
        Due.due("such a call: " + name + " with " + values.length, 0, 1);
        return 0;
    }

    private static void namesEachTest(String readme) throws IOException {
        List<Path> files;
        try (var list = Files.list(Path.of("src/test/java"))) {
            files = list.toList();
        }
        for (Path file : files) {
            String name = file.getFileName().toString().replace(".java", "");
            if (name.endsWith("Test")) {
                Due.due("README.md names " + name, readme.contains("`" + name + "`") ? 1 : 0, 1);
            }
        }
    }
}
