import java.io.IOException;
import java.lang.reflect.Method;
import java.nio.charset.StandardCharsets;
import java.nio.file.Files;
import java.nio.file.Path;
import java.util.Map;
import java.util.TreeMap;
import java.util.regex.Matcher;
import java.util.regex.Pattern;

/** The calls that README.md shows, made one by one: each goes well, and answers what stands at its line's end. */
public final class ReadmeTests {
    private static final Due DUE = new Due("ReadmeTests");
    private static final Pattern CALL = Pattern.compile("(?:int (\\w+) = )?x\\.(\\w+)\\(([^)]*)\\);\\s*//(.*)");
    private static final Pattern FRACTION = Pattern.compile(".*: (\\d+) / (\\d+)");
    private static final Pattern NUMBER = Pattern.compile(".*: (\\d+)");
    private static final int FEWEST_CALLS = 30;

    private final EndTeller x = new EndTeller();
    private final Map<String, Integer> names = new TreeMap<>();
    private int calls = 0;

    private ReadmeTests() {
        names.put("EndTeller.NONE", EndTeller.NONE);
        names.put("true", 1);
        names.put("false", 0);
    }

    public static void main(String[] args) throws IOException, ReflectiveOperationException {
        ReadmeTests tests = new ReadmeTests();
        boolean isJava = false;
        for (String line : Files.readString(Path.of("README.md"), StandardCharsets.UTF_8).split("\n")) {
            if (line.startsWith("```")) {
                isJava = line.equals("```java");
            } else if (isJava && !line.equals("EndTeller x = new EndTeller();")) {
                tests.check(line);
            }
        }
        DUE.is("calls in README.md", tests.calls >= FEWEST_CALLS, true);
        DUE.close();
    }

    private void check(String line) throws ReflectiveOperationException {
        Matcher m = CALL.matcher(line);
        DUE.is("a call: " + line, m.matches(), true);
        if (!m.matches()) {
            return;
        }
        calls++;
        Object answer = call(m.group(2), m.group(3).isEmpty() ? new String[0] : m.group(3).split(", "));
        DUE.is(line + ", status()", x.status(), 0);
        if (m.group(1) != null) {
            names.put(m.group(1), (Integer) answer);
        }
        Matcher fraction = FRACTION.matcher(m.group(4));
        Matcher number = NUMBER.matcher(m.group(4));
        if (answer instanceof Boolean) {
            DUE.is(line, (Boolean) answer, true);
            if (fraction.matches()) {
                DUE.fraction(x, line, Long.parseLong(fraction.group(1)), Long.parseLong(fraction.group(2)));
            }
        } else {
            DUE.is("a number is told: " + line, number.matches(), true);
            DUE.is(line, ((Number) answer).longValue(), number.matches() ? Long.parseLong(number.group(1)) : -1);
        }
    }

    private Object call(String name, String[] words) throws ReflectiveOperationException {
        for (Method m : EndTeller.class.getMethods()) {
            if (m.getName().equals(name) && m.getParameterCount() == words.length) {
                Object[] a = new Object[words.length];
                for (int k = 0; k < words.length; k++) {
                    a[k] = argument(words[k], m.getParameterTypes()[k]);
                }
                return m.invoke(x, a);
            }
        }
        throw new NoSuchMethodException(name);
    }

    private Object argument(String word, Class<?> type) {
        int v = names.containsKey(word) ? names.get(word) : Integer.parseInt(word);
        if (type == boolean.class) {
            return v == 1;
        }
        return type == long.class ? (Object) (long) v : (Object) v;
    }
}
