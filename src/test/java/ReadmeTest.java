import java.io.IOException;
import java.lang.reflect.Method;
import java.lang.reflect.Modifier;
import java.nio.charset.StandardCharsets;
import java.nio.file.Files;
import java.nio.file.Path;
import java.util.HashMap;
import java.util.List;
import java.util.Map;
import java.util.Set;
import java.util.TreeSet;
import java.util.regex.Matcher;
import java.util.regex.Pattern;

/** What README.md shows of the use of the class, call by call, is what the class answers. */
public final class ReadmeTest {
    private static final String MADE = "TrackCircuits x = new TrackCircuits();";
    private static final Pattern CALL = Pattern.compile("x\\.(\\w+)\\((.*)\\);\\s+// (-?\\d+)(: .*)?");

    private final Check check = new Check();
    private final Map<String, Method> face = new HashMap<>();
    private final Set<String> shown = new TreeSet<>();
    private TrackCircuits x;

    private ReadmeTest() {
        for (Method m : TrackCircuits.class.getDeclaredMethods()) {
            if (Modifier.isPublic(m.getModifiers())) {
                face.put(m.getName(), m);
            }
        }
    }

    private void examples(List<String> lines) throws ReflectiveOperationException {
        boolean isExample = false;
        for (int i = 0; i < lines.size(); i++) {
            String line = lines.get(i);
            if (line.startsWith("```")) {
                isExample = line.equals("```java");
                x = null;
            } else if (isExample && line.equals(MADE)) {
                x = new TrackCircuits();
            } else if (isExample) {
                call("README.md:" + (i + 1) + ": " + line, line);
            }
        }
    }

    private void call(String place, String line) throws ReflectiveOperationException {
        Matcher m = CALL.matcher(line);
        boolean isCall = m.matches() && face.containsKey(m.group(1));
        check.holds(place + " is no call with its answer", isCall);
        check.holds(place + " has no object", x != null);
        if (!isCall || x == null) {
            return;
        }
        Method method = face.get(m.group(1));
        Object[] numbers = numbers(m.group(2));
        check.due(place + ": numbers", numbers.length, method.getParameterCount());
        if (numbers.length == method.getParameterCount()) {
            check.due(place, (Integer) method.invoke(x, numbers), Integer.parseInt(m.group(3)));
            shown.add(m.group(1));
        }
    }

    /** Numbers, or signs like 'a' that stand for theirs. */
    private static Object[] numbers(String told) {
        if (told.isEmpty()) {
            return new Object[0];
        }
        String[] parts = told.split(", ?(?=['\\d-])");
        Object[] numbers = new Object[parts.length];
        for (int i = 0; i < parts.length; i++) {
            boolean isSign = parts[i].length() == 3 && parts[i].charAt(0) == '\'';
            numbers[i] = isSign ? (int) parts[i].charAt(1) : Integer.parseInt(parts[i]);
        }
        return numbers;
    }

    public static void main(String[] args) throws IOException, ReflectiveOperationException {
        ReadmeTest test = new ReadmeTest();
        List<String> lines = Files.readAllLines(Path.of("README.md"), StandardCharsets.UTF_8);
        test.examples(lines);
        test.check.holds("every call of the face is shown, not only " + test.shown, test.shown.equals(test.face.keySet()));
        test.check.holds("how to run the tests", lines.contains(".ci/run"));
        test.check.end("ReadmeTest");
    }
}
