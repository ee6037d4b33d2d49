import java.io.IOException;
import java.lang.reflect.InvocationTargetException;
import java.lang.reflect.Method;
import java.nio.file.Files;
import java.nio.file.Path;
import java.util.Set;
import java.util.TreeSet;
import java.util.regex.Matcher;
import java.util.regex.Pattern;

/** Every call that README.md shows answers as it says there, and README.md names every call of the face. */
public final class ReadmeTest {
    private static final Pattern CALL = Pattern.compile("x\\.(\\w+)\\(([^)]*)\\); *// (-?\\w+)\\b.*");

    private ReadmeTest() {}

    public static void main(String[] args) throws IOException, IllegalAccessException {
        String text = Files.readString(Path.of("README.md"));
        HubTree x = null;
        boolean shown = false;
        for (String line : text.split("\n")) {
            if (line.startsWith("```")) {
                shown = line.equals("```java");
            } else if (shown && line.equals("HubTree x = new HubTree();")) {
                x = new HubTree();
            } else if (shown) {
                Matcher call = CALL.matcher(line);
                boolean whole = x != null && call.matches();
                Checks.holds("a call with its answer: " + line, whole);
                String got = whole ? answer(x, call) : "nothing";
                Checks.holds(line + " (it answered " + got + ")", whole && call.group(3).equals(got));
            }
        }
        namesAll(text);
        Checks.finish();
    }

    /** Makes the call: its answer, or the name of what it throws. */
    private static String answer(HubTree x, Matcher call) throws IllegalAccessException {
        String[] numbers = call.group(2).isEmpty() ? new String[0] : call.group(2).split(", ");
        Method method = named(call.group(1));
        Object[] given = new Object[numbers.length];
        for (int i = 0; i < given.length; i++) {
            long number = Long.decode(numbers[i].replace("L", ""));
            if (method.getParameterTypes()[i] == long.class) {
                given[i] = number;
            } else {
                given[i] = (int) number;
            }
        }
        try {
            return method.invoke(x, given).toString();
        } catch (InvocationTargetException e) {
            return e.getCause().getClass().getSimpleName();
        }
    }

    private static Method named(String name) {
        for (Method m : HubTree.class.getMethods()) {
            if (m.getName().equals(name)) {
                return m;
            }
        }
        throw new IllegalArgumentException("no call " + name);
    }

    private static void namesAll(String text) {
        Set<String> missing = new TreeSet<>();
        for (Method m : HubTree.class.getMethods()) {
            boolean own = m.getDeclaringClass() == HubTree.class;
            if (own && !text.contains("`" + m.getName() + "(")) {
                missing.add(m.getName());
            }
        }
        Checks.holds("README.md names every call, but not " + missing, missing.isEmpty());
    }
}
