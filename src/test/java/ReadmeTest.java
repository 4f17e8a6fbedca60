import java.lang.reflect.Method;
import java.nio.file.Files;
import java.nio.file.Path;
import java.util.Set;
import java.util.TreeSet;
import java.util.regex.Matcher;
import java.util.regex.Pattern;

/** README.md: what its example says is answered, and each call of the face stands in it. */
public final class ReadmeTest {
    private static final Pattern MADE = Pattern.compile("CellarPlot plot = new CellarPlot\\(\\);");
    private static final Pattern FED = Pattern.compile("for \\(char sign : \"(.*)\"\\.toCharArray\\(\\)\\) plot\\.feed\\(sign\\);");
    private static final Pattern CALL = Pattern.compile("plot\\.(\\w+)\\((.*?)\\); *// (-?\\d+)\\b.*");

    public static void main(String[] args) throws Exception {
        String page = Files.readString(Path.of("README.md"));
        CellarPlot x = null;
        int calls = 0;
        boolean isExample = false;
        for (String line : page.split("\n")) {
            if (line.startsWith("```")) {
                isExample = line.equals("```java");
            } else if (isExample && MADE.matcher(line).matches()) {
                x = new CellarPlot();
            } else if (isExample && !line.isEmpty()) {
                calls += answer(x, line);
            }
        }
        Due.due("the example has calls", calls > 10 ? 1 : 0, 1);
        everyCall(page);
        Due.end();
    }

    /** A call and its answer, or a text that is fed. */
    private static int answer(CellarPlot x, String line) throws Exception {
        Matcher fed = FED.matcher(line);
        if (fed.matches()) {
            Due.feed(x, fed.group(1));
            return 0;
        }
        Matcher call = CALL.matcher(line);
        Due.due("a line that can be read: " + line, call.matches() ? 1 : 0, 1);
        if (!call.matches()) {
            return 0;
        }
        Due.due(line, call(x, call.group(1), call.group(2)), Long.parseLong(call.group(3)));
        return 1;
    }

    private static long call(CellarPlot x, String name, String given) throws Exception {
        String[] texts = given.isEmpty() ? new String[0] : given.split(", ");
        for (Method m : CellarPlot.class.getMethods()) {
            if (m.getName().equals(name)) {
                Object[] values = new Object[texts.length];
                for (int i = 0; i < texts.length; i++) {
                    values[i] = value(m.getParameterTypes()[i], texts[i]);
                }
                return ((Number) m.invoke(x, values)).longValue();
            }
        }
        return Long.MIN_VALUE;
    }

    private static Object value(Class<?> type, String text) {
        if (type == boolean.class) {
            return Boolean.valueOf(text);
        }
        return type == long.class ? (Object) Long.valueOf(text) : (Object) Integer.valueOf(text);
    }

    private static void everyCall(String page) {
        Set<String> missing = new TreeSet<>();
        for (Method m : CellarPlot.class.getDeclaredMethods()) {
            if (java.lang.reflect.Modifier.isPublic(m.getModifiers()) && !page.contains("`" + m.getName() + "(")) {
                missing.add(m.getName());
            }
        }
        Due.due("calls that README.md does not tell of: " + missing, missing.size(), 0);
    }
}
