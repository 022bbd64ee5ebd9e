import java.io.IOException;
import java.lang.reflect.Method;
import java.nio.file.Files;
import java.nio.file.Path;
import java.util.regex.Matcher;
import java.util.regex.Pattern;

/** README.md tells every method of the face, and its example answers as it says. */
public final class ReadmeTest {
    private static final String[] FACE = {
        "ChartTable()",
        "boolean write(char c)",
        "int line() throws IllegalArgumentException, IllegalStateException",
        "int compile() throws IllegalStateException",
        "int configurations()",
        "int count(int what)",
        "int named() throws NoSuchElementException",
        "int next(int configuration, int event) throws NoSuchElementException",
        "int trace(int configuration, int event, int i)",
        "boolean active(int configuration, int state)",
        "int current(int configuration, int state)",
        "int event(int event) throws IllegalStateException, IllegalArgumentException",
        "int noted()",
    };

    private static final Pattern LINE = Pattern.compile("\"([a-z ]+)\"");
    private static final Pattern CALL = Pattern.compile("(?m)^chart\\.(\\w+)\\(([0-9, ]*)\\); +// ('.'|\\w+)");

    public static void main(String[] args) throws IOException, ReflectiveOperationException {
        String readme = Files.readString(Path.of("README.md"));
        for (String signature : FACE) {
            Probe.due("README.md tells " + signature, readme.contains("\n#### `" + signature + "`\n\n"), true);
        }
        Probe.due("README.md says how the tests are run", readme.contains("\n    .ci/run\n"), true);
        int start = readme.indexOf("```java\n");
        example(readme.substring(start, readme.indexOf("```\n", start)));
        Probe.end();
    }

    private static void example(String code) throws ReflectiveOperationException {
        ChartTable chart = new ChartTable();
        Matcher line = LINE.matcher(code);
        while (line.find()) {
            for (char c : line.group(1).toCharArray()) {
                Probe.due("write of " + line.group(1), chart.write(c), true);
            }
            Probe.due(line.group(1) + " is read", chart.line() > 0, true);
        }
        int calls = 0;
        Matcher call = CALL.matcher(code);
        while (call.find()) {
            calls++;
            String got = answer(chart, call.group(1), call.group(2));
            Probe.due("the example's " + call.group(), got, told(call.group(3)));
        }
        Probe.due("calls in the example", calls, 8);
    }

    private static String answer(ChartTable chart, String name, String given) throws ReflectiveOperationException {
        String[] words = given.isEmpty() ? new String[0] : given.split(", ");
        Class<?>[] types = new Class<?>[words.length];
        Object[] values = new Object[words.length];
        for (int i = 0; i < words.length; i++) {
            types[i] = int.class;
            values[i] = Integer.valueOf(words[i]);
        }
        Method method = ChartTable.class.getMethod(name, types);
        return String.valueOf(method.invoke(chart, values));
    }

    private static String told(String answer) {
        return answer.startsWith("'") ? String.valueOf((int) answer.charAt(1)) : answer;
    }
}
