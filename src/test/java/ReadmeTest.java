import java.io.File;
import java.io.IOException;
import java.lang.reflect.Method;
import java.lang.reflect.Modifier;
import java.nio.file.Files;
import java.nio.file.Path;
import java.util.HashMap;
import java.util.List;
import java.util.Map;
import java.util.regex.Matcher;
import java.util.regex.Pattern;

/** README.md says what is so: its example answers as it tells, and it leaves out no call and no test. */
public final class ReadmeTest {
    private static final Path README = Path.of("README.md");
    private static final Path TESTS = Path.of("src/test/java");
    private static final String MADE = "MarshDrains marsh = new MarshDrains();";
    private static final Pattern CALL =
        Pattern.compile("(int|boolean|long|double) (\\w+) = marsh\\.(\\w+)\\(([^)]*)\\); +// ([-\\w.]+)(: .+)?");
    private static final Checks c = new Checks();

    public static void main(String[] args) throws ReflectiveOperationException, IOException {
        exampleAnswersAsTold();
        eachCallIsNamed();
        eachTestIsNamed();
        c.due("how to run the tests", Files.readString(README).contains("    bash .ci/run\n"), true);
        c.end();
    }

    private static List<String> example() throws IOException {
        List<String> lines = Files.readAllLines(README);
        int start = lines.indexOf("```java") + 1;
        return lines.subList(start, start + lines.subList(start, lines.size()).indexOf("```"));
    }

    private static void exampleAnswersAsTold() throws ReflectiveOperationException, IOException {
        List<String> lines = example();
        c.due("the example's first line", lines.get(0), MADE);
        MarshDrains marsh = new MarshDrains();
        Map<String, Object> known = new HashMap<>();
        for (String line : lines.subList(1, lines.size())) {
            Matcher call = CALL.matcher(line);
            boolean read = call.matches();
            c.due("a call and its answer: " + line, read, true);
            if (read) {
                Object got = answer(marsh, call, known);
                c.due(line, String.valueOf(got), call.group(5));
                c.due("a name of its own: " + line, known.put(call.group(2), got) == null, true);
            }
        }
    }

    private static Object answer(MarshDrains marsh, Matcher call, Map<String, Object> known)
            throws ReflectiveOperationException {
        String[] words = call.group(4).isEmpty() ? new String[0] : call.group(4).split(", ");
        Object[] numbers = new Object[words.length];
        Class<?>[] types = new Class<?>[words.length];
        for (int i = 0; i < words.length; i++) {
            numbers[i] = known.containsKey(words[i]) ? known.get(words[i]) : Integer.valueOf(words[i]);
            types[i] = int.class;
        }
        Method method = MarshDrains.class.getMethod(call.group(3), types);
        c.due("type of " + call.group(), call.group(1), method.getReturnType().getName());
        return method.invoke(marsh, numbers);
    }

    /** Each call stands in a table's row with as many numbers as it takes. */
    private static void eachCallIsNamed() throws IOException {
        String readme = Files.readString(README);
        for (Method method : MarshDrains.class.getDeclaredMethods()) {
            int takes = method.getParameterCount();
            String numbers = takes == 0 ? "" : "\\w+" + ", \\w+".repeat(takes - 1);
            boolean named = Pattern.compile("`" + method.getName() + "\\(" + numbers + "\\)`").matcher(readme).find();
            boolean face = Modifier.isPublic(method.getModifiers());
            c.due("named in README.md: " + method.getName(), named, face);
        }
    }

    private static void eachTestIsNamed() throws IOException {
        String readme = Files.readString(README);
        File[] files = TESTS.toFile().listFiles();
        c.due("there are tests", files != null && files.length > 0, true);
        if (files != null) {
            for (File file : files) {
                String name = file.getName().replace(".java", "");
                c.due("named in README.md: " + name, readme.contains("`" + name + "`"), true);
            }
        }
    }
}
