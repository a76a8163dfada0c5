import java.io.IOException;
import java.lang.reflect.Method;
import java.nio.file.Files;
import java.nio.file.Path;
import java.util.TreeSet;
import java.util.regex.Matcher;
import java.util.regex.Pattern;

/** The calls that README.md shows, one behind another on one object: each answers what is told behind it. */
public final class ReadmeTest {
    private static final Pattern CALL = Pattern.compile("towers\\.(\\w+)\\(([^()]*)\\);\\s*// (-?\\d+)");

    public static void main(String[] args) throws IOException, ReflectiveOperationException {
        FloatTowers towers = new FloatTowers();
        TreeSet<String> shown = new TreeSet<>();
        Matcher m = CALL.matcher(Files.readString(Path.of("README.md")));
        while (m.find()) {
            Method call = method(m.group(1));
            Object[] arguments = arguments(m.group(2));
            Due.is("README: " + m.group(), ((Number) call.invoke(towers, arguments)).longValue(),
                Long.parseLong(m.group(3)));
            shown.add(m.group(1));
        }
        for (Method call : FloatTowers.class.getDeclaredMethods()) {
            boolean missing = java.lang.reflect.Modifier.isPublic(call.getModifiers()) && !shown.contains(call.getName());
            Due.is("README shows " + call.getName(), missing ? 1 : 0, 0);
        }
        Due.close("ReadmeTest");
    }

    private static Method method(String name) {
        for (Method call : FloatTowers.class.getDeclaredMethods()) {
            if (call.getName().equals(name)) {
                return call;
            }
        }
        throw new IllegalArgumentException("README shows a call that is not there: " + name);
    }

    private static Object[] arguments(String told) {
        String[] parts = told.isBlank() ? new String[0] : told.split(",");
        Object[] values = new Object[parts.length];
        for (int i = 0; i < parts.length; i++) {
            String part = parts[i].strip();
            if (part.equals("true") || part.equals("false")) {
                values[i] = Boolean.valueOf(part);
            } else {
                values[i] = part.startsWith("'") ? part.charAt(1) : Integer.parseInt(part);
            }
        }
        return values;
    }
}
