import java.io.IOException;
import java.lang.reflect.Method;
import java.lang.reflect.Modifier;
import java.nio.file.Files;
import java.nio.file.Path;
import java.util.HashMap;
import java.util.HashSet;
import java.util.Map;
import java.util.Set;
import java.util.regex.Matcher;
import java.util.regex.Pattern;

/** The example in README.md: each of its calls is made, and answers what stands behind it. */
final class ReadmeTest {
    private static final Due DUE = new Due("ReadmeTest");
    private static final Pattern CALL = Pattern.compile(
        "(?:int (\\w+) = )?roads\\.(\\w+)\\(([^()]*)\\); +// (-?\\d+)(?:, ([A-Z_]+))?(?:: .+)?");

    private final GateRoads roads = new GateRoads();
    private final Map<String, Long> names = new HashMap<>();
    private final Set<String> called = new HashSet<>();
    private int objects;

    public static void main(String[] args) throws IOException, ReflectiveOperationException {
        String readme = Files.readString(Path.of("README.md"));
        Matcher block = Pattern.compile("(?s)```java\n(.*?)\n```").matcher(readme);
        DUE.is("an example", block.find() ? 1 : 0, 1);
        ReadmeTest test = new ReadmeTest();
        for (String line : block.group(1).split("\n")) {
            test.line(line);
        }
        DUE.is("another example, which is not looked at", block.find() ? 1 : 0, 0);
        DUE.is("objects", test.objects, 1);
        for (Method m : GateRoads.class.getDeclaredMethods()) {
            if (Modifier.isPublic(m.getModifiers())) {
                DUE.is(m.getName() + " stands in the example", test.called.contains(m.getName()) ? 1 : 0, 1);
            }
        }
        DUE.is("README.md says how to run the tests", readme.contains("\n    .ci/run\n") ? 1 : 0, 1);
        DUE.end();
    }

    private void line(String line) throws ReflectiveOperationException {
        if (line.isEmpty() || line.startsWith("// ")) {
            return;
        }
        if (line.equals("GateRoads roads = new GateRoads();")) {
            objects++;
            return;
        }
        Matcher call = CALL.matcher(line);
        if (!call.matches()) {
            DUE.is("a line that is no call: " + line, 0, 1);
            return;
        }
        int answer = answer(call.group(2), call.group(3));
        DUE.is(line, answer, Integer.parseInt(call.group(4)));
        if (call.group(5) != null) {
            DUE.is(line, answer, GateRoads.class.getField(call.group(5)).getInt(null));
        }
        if (call.group(1) != null) {
            names.put(call.group(1), (long) answer);
        }
    }

    private int answer(String name, String arguments) throws ReflectiveOperationException {
        called.add(name);
        String[] given = arguments.isEmpty() ? new String[0] : arguments.split(", ");
        for (Method m : GateRoads.class.getDeclaredMethods()) {
            if (m.getName().equals(name) && m.getParameterCount() == given.length) {
                Object[] values = new Object[given.length];
                for (int i = 0; i < given.length; i++) {
                    long value = value(given[i]);
                    boolean wide = m.getParameterTypes()[i] == long.class;
                    values[i] = wide ? (Object) value : (Object) Math.toIntExact(value);
                }
                return (Integer) m.invoke(roads, values);
            }
        }
        throw new NoSuchMethodException(name + " of " + given.length);
    }

    private long value(String given) {
        if (names.containsKey(given)) {
            return names.get(given);
        }
        if (given.matches("'.'")) {
            return given.charAt(1);
        }
        return Long.decode(given.endsWith("L") ? given.substring(0, given.length() - 1) : given);
    }
}
