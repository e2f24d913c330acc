import java.io.IOException;
import java.lang.reflect.Method;
import java.nio.file.Files;
import java.nio.file.Path;
import java.util.Set;
import java.util.TreeSet;
import java.util.regex.Matcher;
import java.util.regex.Pattern;

/** The calls on README.md, one after the other, answer what stands beside them; each call of the face is listed. */
public final class ReadmeTest {
    private static final Check CHECK = new Check();
    private static final Pattern WRITTEN = Pattern.compile("for \\(char c : \"([^\"]*)\"");
    private static final Pattern CALL = Pattern.compile("desk\\.(\\w+)\\(([^)]*)\\); +// (-?\\d+|[A-Z]+)\\b.*");

    public static void main(String[] args) throws IOException, ReflectiveOperationException {
        String page = Files.readString(Path.of(System.getProperty("readme", "README.md")));
        int calls = 0;
        AimDesk desk = new AimDesk();
        for (String line : page.lines().toList()) {
            Matcher written = WRITTEN.matcher(line);
            Matcher call = CALL.matcher(line);
            if (written.find()) {
                Check.write(desk, written.group(1));
            }
            if (call.matches()) {
                CHECK.due("README: " + line, answer(desk, call.group(1), call.group(2)), due(call.group(3)));
                calls++;
            } else {
                CHECK.due("README, a call without its answer: " + line, !line.startsWith("desk."));
            }
        }
        CHECK.due("calls were found", calls > 17);
        listed(page);
        CHECK.finish();
    }

    private static long answer(AimDesk desk, String name, String arguments) throws ReflectiveOperationException {
        String[] texts = arguments.isEmpty() ? new String[0] : arguments.split(", ");
        for (Method method : AimDesk.class.getMethods()) {
            if (method.getName().equals(name) && method.getParameterCount() == texts.length) {
                return ((Number) method.invoke(desk, values(method.getParameterTypes(), texts))).longValue();
            }
        }
        throw new IllegalArgumentException("no such call: " + name);
    }

    private static Object[] values(Class<?>[] types, String[] texts) {
        Object[] values = new Object[texts.length];
        for (int i = 0; i < values.length; i++) {
            values[i] = types[i] == boolean.class ? (Object) Boolean.valueOf(texts[i]) : Integer.valueOf(texts[i]);
        }
        return values;
    }

    private static long due(String text) throws ReflectiveOperationException {
        return Character.isLetter(text.charAt(0)) ? AimDesk.class.getField(text).getInt(null) : Long.parseLong(text);
    }

    private static void listed(String page) {
        Set<String> names = new TreeSet<>();
        for (Method method : AimDesk.class.getDeclaredMethods()) {
            if (java.lang.reflect.Modifier.isPublic(method.getModifiers())) {
                names.add(method.getName());
            }
        }
        for (String name : names) {
            CHECK.due("README lists " + name, Pattern.compile("(?m)^\\|.*`" + name + "\\(.*\\|").matcher(page).find());
        }
    }
}
