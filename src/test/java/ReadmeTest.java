import java.io.IOException;
import java.lang.reflect.InvocationTargetException;
import java.lang.reflect.Method;
import java.lang.reflect.Modifier;
import java.nio.file.Files;
import java.nio.file.Path;
import java.util.HashMap;
import java.util.List;
import java.util.Map;
import java.util.regex.Matcher;
import java.util.regex.Pattern;
import java.util.stream.Stream;

/** What README.md says is so: its example answers as it tells, and it names all calls, limits and tests. */
public final class ReadmeTest {
    private static final Checks CHECKS = new Checks();
    /** [int name =] cells.call(arguments); // answer */
    private static final Pattern CALL =
        Pattern.compile("(?:int (\\w+) = )?cells\\.(\\w+)\\((.*)\\);(?:\\s*// (-?\\d+)?.*)?");
    private static final Pattern ROW = Pattern.compile("(?m)^\\| `(\\w+)\\(.*\\)` \\|");
    private static final Pattern TEST = Pattern.compile("(?m)^- `(\\w+)`:");

    public static void main(String[] args) throws IOException, IllegalAccessException, InvocationTargetException {
        String readme = Files.readString(Path.of("README.md"));
        Matcher example = Pattern.compile("(?s)```java\n(.*?)```").matcher(readme);
        CHECKS.holds("README.md has an example", example.find());
        run(example.group(1));
        namesAllCalls(readme);
        namesAllTests(readme);
        for (String limit : List.of("2000", "1000", "6000", "9000", "20000", "500000", "512")) {
            CHECKS.holds("README.md tells of " + limit, Pattern.compile("\\b" + limit + "\\b").matcher(readme).find());
        }
        CHECKS.end();
    }

    private static void run(String example) throws IllegalAccessException, InvocationTargetException {
        HotCells cells = new HotCells();
        Map<String, Integer> kept = new HashMap<>();
        String[] lines = example.split("\n");
        CHECKS.holds("the example begins with a new object", lines[0].startsWith("HotCells cells = new HotCells();"));
        for (int i = 1; i < lines.length; i++) {
            Matcher call = CALL.matcher(lines[i]);
            CHECKS.holds("a call is told by: " + lines[i], call.matches());
            Object got = answer(cells, call.group(2), call.group(3), kept);
            if (call.group(4) != null) {
                CHECKS.due("README.md: " + lines[i], (Integer) got, Integer.parseInt(call.group(4)));
            }
            if (call.group(1) != null) {
                kept.put(call.group(1), (Integer) got);
            }
        }
    }

    private static Object answer(HotCells cells, String name, String list, Map<String, Integer> kept)
        throws IllegalAccessException, InvocationTargetException {
        String[] told = list.isEmpty() ? new String[0] : list.split(", ");
        Object[] arguments = new Object[told.length];
        for (int i = 0; i < told.length; i++) {
            arguments[i] = kept.containsKey(told[i]) ? kept.get(told[i]) : (Integer) Integer.parseInt(told[i]);
        }
        for (Method method : HotCells.class.getMethods()) {
            if (method.getName().equals(name) && method.getParameterCount() == told.length) {
                return method.invoke(cells, arguments);
            }
        }
        CHECKS.holds("the class has " + name + " of " + told.length, false);
        return null;
    }

    private static void namesAllCalls(String readme) {
        List<String> rows = ROW.matcher(readme).results().map(row -> row.group(1)).toList();
        for (Method method : HotCells.class.getDeclaredMethods()) {
            if (Modifier.isPublic(method.getModifiers())) {
                CHECKS.holds("README.md has a row for " + method.getName(), rows.contains(method.getName()));
            }
        }
    }

    private static void namesAllTests(String readme) throws IOException {
        List<String> told = TEST.matcher(readme).results().map(test -> test.group(1)).sorted().toList();
        try (Stream<Path> files = Files.list(Path.of("src/test/java"))) {
            List<String> tests =
                files.map(file -> file.getFileName().toString().replace(".java", "")).sorted().toList();
            CHECKS.holds("README.md names the tests " + tests + ", not " + told, told.equals(tests));
        }
    }
}
