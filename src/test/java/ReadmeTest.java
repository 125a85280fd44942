import java.lang.reflect.Method;
import java.lang.reflect.Modifier;
import java.nio.file.Files;
import java.nio.file.Path;
import java.util.HashMap;
import java.util.HashSet;
import java.util.Map;
import java.util.Set;
import java.util.regex.Matcher;
import java.util.regex.Pattern;

/** What README.md tells of the class: each call in it that is told with an answer is made, in its order. */
public final class ReadmeTest {
    private static final Pattern FED = Pattern.compile("feed\\(law, \"(.*)\"\\);");
    private static final Pattern CALL = Pattern.compile("law\\.(\\w+)\\((.*?)\\);\\s+// (-?\\d+)(: .*)?");

    private static final Due due = new Due();
    private static final Map<String, Method> FACE = new HashMap<>();
    private static final Set<String> called = new HashSet<>();
    private static Run law = new Run();

    public static void main(String[] args) throws Exception {
        for (Method method : Run.class.getDeclaredMethods()) {
            FACE.put(method.getName(), method);
        }
        for (String line : Files.readAllLines(Path.of("README.md"))) {
            Matcher fed = FED.matcher(line), call = CALL.matcher(line);
            if (line.equals("OldestLaw law = new OldestLaw();")) {
                law = new Run();
            } else if (fed.matches()) {
                called.add("feed");
                Due.feed(law, fed.group(1));
            } else if (call.matches()) {
                called.add(call.group(1));
                due.is(0, "README.md, " + line, answer(call.group(1), call.group(2)), Long.parseLong(call.group(3)));
            }
        }
        for (Method method : OldestLaw.class.getDeclaredMethods()) {
            if (Modifier.isPublic(method.getModifiers())) {
                due.is(0, "README.md shows " + method.getName(), called.contains(method.getName()) ? 1 : 0, 1);
            }
        }
        due.end();
    }

    private static long answer(String name, String given) throws Exception {
        Method method = FACE.get(name);
        Class<?>[] types = method.getParameterTypes();
        String[] values = types.length == 0 ? new String[0] : given.split(", ");
        Object[] all = new Object[types.length];
        for (int k = 0; k < types.length; k++) {
            if (types[k] == long.class) {
                all[k] = Long.valueOf(values[k]);
            } else {
                all[k] = Integer.valueOf(values[k]);
            }
        }
        return ((Number) method.invoke(law, all)).longValue();
    }
}
