import java.lang.reflect.Method;
import java.lang.reflect.Modifier;
import java.nio.file.Files;
import java.nio.file.Path;
import java.util.HashMap;
import java.util.List;
import java.util.Map;
import java.util.regex.Matcher;
import java.util.regex.Pattern;

/** README.md keeps its word: each line of its examples answers what stands behind it; each call stands there. */
public final class ReadmeTest {
    private static final Pattern MADE = Pattern.compile("LeverCurtain x = new LeverCurtain\\((\\S+)\\);");
    private static final Pattern TAPE = Pattern.compile("tape\\(x, \"([^\"]*)\"\\);");
    private static final Pattern CALL = Pattern.compile("x\\.(\\w+)\\((.*?)\\); +// (-?\\w+)(:.*)?");
    private static final Map<String, Method> CALLS = new HashMap<>();

    private static LeverCurtain x;
    private static int called;

    public static void main(String[] args) throws Exception {
        for (Method method : LeverCurtain.class.getDeclaredMethods()) {
            if (Modifier.isPublic(method.getModifiers())) {
                CALLS.put(method.getName(), method);
            }
        }
        List<String> lines = Files.readAllLines(Path.of("README.md"));
        examples(lines);
        namesAll(String.join("\n", lines));
        Due.yes(called > 0, "README.md has examples");
        Due.end();
    }

    private static void examples(List<String> lines) throws Exception {
        boolean code = false;
        for (String line : lines) {
            if (line.startsWith("```")) {
                code = line.equals("```java");
            } else if (code) {
                tryLine(line);
            }
        }
    }

    private static void tryLine(String line) throws Exception {
        Matcher made = MADE.matcher(line);
        Matcher tape = TAPE.matcher(line);
        Matcher call = CALL.matcher(line);
        if (made.matches()) {
            x = new LeverCurtain((int) value(made.group(1)));
        } else if (tape.matches()) {
            Due.tape(x, tape.group(1));
        } else if (call.matches()) {
            tryCall(line, call.group(1), call.group(2), call.group(3));
        } else {
            Due.no(line.startsWith("x.") || line.startsWith("tape("), "README.md has a line like none: " + line);
        }
    }

    private static void tryCall(String line, String name, String told, String want) throws Exception {
        Method method = CALLS.get(name);
        Due.yes(method != null, "README.md names a call that is there: " + name);
        String[] parts = told.isEmpty() ? new String[0] : told.split(", ");
        Object[] given = new Object[parts.length];
        for (int i = 0; i < parts.length; i++) {
            boolean wide = method.getParameterTypes()[i] == long.class;
            given[i] = wide ? (Object) value(parts[i]) : (Object) (int) value(parts[i]);
        }
        Object got = method.invoke(x, given);
        called++;
        Due.is(value(want), got instanceof Boolean yes ? yes ? 1 : 0 : (Integer) got, "README.md: " + line);
        Due.yes(got instanceof Boolean == (want.equals("true") || want.equals("false")), "README.md: " + line);
    }

    private static long value(String text) {
        switch (text) {
            case "NONE": return LeverCurtain.NONE;
            case "HIDDEN": return LeverCurtain.HIDDEN;
            case "true": return 1;
            case "false": return 0;
            default: break;
        }
        if (text.startsWith("0b")) {
            return Long.parseLong(text.substring(2), 2);
        }
        return Long.decode(text);
    }

    private static void namesAll(String text) {
        for (Method method : CALLS.values()) {
            Matcher shown = Pattern.compile("`" + method.getName() + "\\(([^)]*)\\)`").matcher(text);
            boolean found = shown.find();
            Due.yes(found, "README.md tells of " + method.getName());
            int told = !found ? -1 : shown.group(1).isEmpty() ? 0 : shown.group(1).split(", ").length;
            Due.is(method.getParameterCount(), told, "README.md: parameters of " + method.getName());
        }
    }
}
