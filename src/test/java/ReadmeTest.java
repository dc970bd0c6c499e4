import java.lang.reflect.Method;
import java.nio.charset.StandardCharsets;
import java.nio.file.Files;
import java.nio.file.Paths;
import java.util.HashMap;
import java.util.Map;
import java.util.regex.Matcher;
import java.util.regex.Pattern;

/** README.md tells the truth: its example answers what stands there, every call is named; it runs in the project's folder. */
public final class ReadmeTest {
    private static final Pattern TEXT = Pattern.compile("^feed\\(x, \"([^\"]*)\"\\);");
    private static final Pattern CALL = Pattern.compile("^x\\.(\\w+)\\(([^)]*)\\);\\s*// (-?\\d+)");

    public static void main(String[] args) throws Exception {
        String readme = new String(Files.readAllBytes(Paths.get("README.md")), StandardCharsets.UTF_8);
        Map<String, Method> face = new HashMap<>();
        for (Method m : RopeSwing.class.getMethods()) {
            if (m.getDeclaringClass() == RopeSwing.class) {
                face.put(m.getName(), m);
                Check.holds(m.getName() + " is named", readme.contains("`" + m.getName() + "`"));
            }
        }
        example(readme, face);
        for (java.io.File test : Paths.get("src/test/java").toFile().listFiles()) {
            String name = test.getName().replace(".java", "");
            Check.holds(name + " is named", !name.endsWith("Test") || readme.contains(name));
        }
        Check.end("ReadmeTest");
    }

    private static void example(String readme, Map<String, Method> face) throws Exception {
        RopeSwing x = null;
        int calls = 0;
        for (String line : readme.split("\n")) {
            Matcher text = TEXT.matcher(line);
            Matcher call = CALL.matcher(line);
            if (line.startsWith("RopeSwing x = new RopeSwing();")) {
                x = new RopeSwing();
            } else if (text.find()) {
                Check.feed(x, text.group(1));
            } else if (call.find()) {
                calls++;
                Check.due("README's " + line, answer(x, face.get(call.group(1)), call.group(2)), Long.parseLong(call.group(3)));
            } else {
                Check.holds("README's line can be read: " + line, !line.startsWith("x."));
            }
        }
        Check.holds("calls of the example: " + calls, calls > 15);
    }

    private static int answer(RopeSwing x, Method call, String words) throws Exception {
        Class<?>[] types = call.getParameterTypes();
        Object[] arguments = new Object[types.length];
        String[] told = words.isEmpty() ? new String[0] : words.split(", ");
        Check.due("arguments of README's " + call.getName(), told.length, types.length);
        for (int i = 0; i < types.length; i++) {
            long v = Long.parseLong(told[i]);
            if (types[i] == long.class) {
                arguments[i] = v;
            } else {
                arguments[i] = (int) v;
            }
        }
        return (Integer) call.invoke(x, arguments);
    }
}
