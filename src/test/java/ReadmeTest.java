import java.io.IOException;
import java.lang.reflect.InvocationTargetException;
import java.lang.reflect.Method;
import java.nio.file.Files;
import java.nio.file.Path;
import java.util.regex.Matcher;
import java.util.regex.Pattern;

/** The example of README.md holds: each of its calls, in their order, answers what stands behind it. */
public final class ReadmeTest {
    private static final Due due = new Due("ReadmeTest");
    private static final Pattern MADE = Pattern.compile("GoatAbacus valley = new GoatAbacus\\((\\d+)\\);.*");
    private static final Pattern CALL = Pattern.compile("valley\\.(\\w+)\\((.*)\\);\\s*// (-?\\d+|true|false)\\b.*");

    private static Method method(String name) {
        for (Method m : GoatAbacus.class.getMethods()) {
            if (m.getName().equals(name)) {
                return m;
            }
        }
        throw new IllegalArgumentException("no method " + name);
    }

    private static Object argument(Class<?> type, String text) {
        if (type == boolean.class) {
            return Boolean.valueOf(text);
        }
        return type == long.class ? (Object) Long.decode(text) : (Object) Integer.decode(text);
    }

    private static long asNumber(Object answer) {
        return answer instanceof Boolean is ? (is ? 1 : 0) : ((Number) answer).longValue();
    }

    private static long call(GoatAbacus valley, String name, String list)
            throws IllegalAccessException, InvocationTargetException {
        Method m = method(name);
        String[] texts = list.isEmpty() ? new String[0] : list.split(", ");
        Object[] arguments = new Object[texts.length];
        for (int i = 0; i < texts.length; i++) {
            arguments[i] = argument(m.getParameterTypes()[i], texts[i]);
        }
        return asNumber(m.invoke(valley, arguments));
    }

    public static void main(String[] args)
            throws IOException, IllegalAccessException, InvocationTargetException {
        GoatAbacus valley = null;
        int calls = 0;
        for (String line : Files.readAllLines(Path.of("README.md"))) {
            Matcher made = MADE.matcher(line);
            if (made.matches()) {
                valley = new GoatAbacus(Integer.parseInt(made.group(1)));
            }
            if (!line.startsWith("valley.")) {
                continue;
            }
            calls++;
            Matcher m = CALL.matcher(line);
            due.is("a call with its answer: " + line, valley != null && m.matches(), true);
            if (valley != null && m.matches()) {
                String answer = m.group(3);
                long want = answer.equals("true") ? 1 : answer.equals("false") ? 0 : Long.parseLong(answer);
                due.is(line, call(valley, m.group(1), m.group(2)), want);
            }
        }
        due.is("there are calls", calls > 20, true);
        due.close();
    }
}
