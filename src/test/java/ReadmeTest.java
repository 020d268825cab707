import java.lang.reflect.Method;
import java.lang.reflect.Modifier;
import java.nio.file.Files;
import java.nio.file.Path;
import java.util.Set;
import java.util.TreeSet;
import java.util.regex.Matcher;
import java.util.regex.Pattern;

/** The example in README.md, read from there: each call answers what stands beside it. */
public final class ReadmeTest {
    private static final Pattern MAKES = Pattern.compile("RingSeries series = new RingSeries\\((.*)\\);");
    private static final Pattern CALLS = Pattern.compile("series\\.(\\w+)\\((.*?)\\);(\\s*// (-?\\d+|true|false): .*)?");

    private static RingSeries series = null;
    private static final Set<String> asked = new TreeSet<>();

    public static void main(String[] args) throws Exception {
        Checks.sentence("README.md");
        for (String line : Files.readAllLines(Path.of("README.md"))) {
            Matcher makes = MAKES.matcher(line);
            if (makes.matches()) {
                series = made(makes.group(1));
            } else if (line.startsWith("series.")) {
                dueLine(line);
            }
        }
        for (Method method : RingSeries.class.getDeclaredMethods()) {
            if (Modifier.isPublic(method.getModifiers())) {
                Checks.due("an answer of " + method.getName() + " stands there", asked.contains(method.getName()), true);
            }
        }
        Checks.finish();
    }

    private static RingSeries made(String numbers) {
        Object[] n = arguments(numbers);
        return new RingSeries((int) n[0], (int) n[1], (int) n[2], (int) n[3], (int) n[4]);
    }

    private static void dueLine(String line) throws ReflectiveOperationException {
        Matcher call = CALLS.matcher(line);
        Checks.due("can be read: " + line, call.matches(), true);
        Object got = method(call.group(1)).invoke(series, arguments(call.group(2)));
        if (call.group(4) != null) {
            asked.add(call.group(1));
            Checks.due(line, got.toString(), call.group(4));
        }
    }

    private static Method method(String name) {
        for (Method method : RingSeries.class.getMethods()) {
            if (method.getName().equals(name)) {
                return method;
            }
        }
        throw new IllegalStateException("README.md calls " + name + ", and there is none");
    }

    private static Object[] arguments(String list) {
        String[] words = list.isEmpty() ? new String[0] : list.split(", ");
        Object[] all = new Object[words.length];
        for (int i = 0; i < words.length; i++) {
            boolean truth = words[i].equals("true") || words[i].equals("false");
            all[i] = truth ? (Object) Boolean.valueOf(words[i]) : (Object) Integer.valueOf(words[i]);
        }
        return all;
    }
}
