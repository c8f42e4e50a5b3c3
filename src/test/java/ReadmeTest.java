import java.lang.reflect.Method;
import java.nio.file.Files;
import java.nio.file.Path;
import java.util.Map;
import java.util.Set;
import java.util.TreeSet;
import java.util.regex.Matcher;
import java.util.regex.Pattern;

/** README.md's examples, on one object from its first line to its last. */
public final class ReadmeTest {
    private static final Checks CHECKS = new Checks();
    private static final Pattern CALL = Pattern.compile("^x\\.(\\w+)\\(([-0-9, ]*)\\); +// (-?\\d+|[A-Z]+):");
    private static final Pattern TELL = Pattern.compile("^tell\\(x, \"([^\"]+)\"\\);");
    private static final Map<String, Integer> NAMED = Map.of("BAD", -1, "NO", -2, "FULL", -3, "NONE", -4);

    public static void main(String[] args) throws Exception {
        NobodyFirst x = new NobodyFirst();
        Set<String> shown = new TreeSet<>();
        for (String line : Files.readAllLines(Path.of("README.md"))) {
            Matcher call = CALL.matcher(line);
            Matcher tell = TELL.matcher(line);
            if (call.find()) {
                shown.add(call.group(1));
                CHECKS.due(line, ask(x, call.group(1), call.group(2)), dueOf(call.group(3)));
            } else if (tell.find()) {
                shown.add("write");
                Checks.writeText(x, tell.group(1));
            } else {
                CHECKS.due("an answer is told: " + line, line.startsWith("x.") || line.startsWith("tell") ? 1 : 0, 0);
            }
        }
        Set<String> face = new TreeSet<>();
        for (Method m : NobodyFirst.class.getMethods()) {
            if (m.getDeclaringClass() == NobodyFirst.class) face.add(m.getName());
        }
        CHECKS.due("each call is shown: " + shown, shown.equals(face) ? 1 : 0, 1);
        CHECKS.end();
    }

    private static int dueOf(String answer) {
        return NAMED.containsKey(answer) ? NAMED.get(answer) : Integer.parseInt(answer);
    }

    private static int ask(NobodyFirst x, String name, String told) throws Exception {
        String[] numbers = told.isBlank() ? new String[0] : told.split(", ");
        for (Method m : NobodyFirst.class.getMethods()) {
            if (m.getName().equals(name) && m.getParameterCount() == numbers.length) {
                Object[] values = new Object[numbers.length];
                for (int k = 0; k < numbers.length; k++) values[k] = Integer.parseInt(numbers[k]);
                return (Integer) m.invoke(x, values);
            }
        }
        throw new IllegalStateException("no such call: " + name);
    }
}
