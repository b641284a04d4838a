import java.lang.reflect.Method;
import java.nio.file.Files;
import java.nio.file.Path;
import java.util.regex.Matcher;
import java.util.regex.Pattern;

/** The examples of README.md: each call answers what stands behind it. */
public final class ReadmeTest {
    private static final Pattern TEXT = Pattern.compile("put\\(desk, \"([^\"]*)\"\\);");
    private static final Pattern CALL = Pattern.compile("desk\\.(\\w+)\\(([^)]*)\\);\\s+// (-?\\d+): .*");

    private static ScansionDesk desk;

    public static void main(String[] args) throws Exception {
        boolean inside = false;
        for (String line : Files.readAllLines(Path.of(args.length > 0 ? args[0] : "README.md"))) {
            if (line.startsWith("```")) {
                inside = line.equals("```java");
            } else if (inside) {
                run(line);
            }
        }
        Due.tell();
    }

    private static void run(String line) throws Exception {
        Due.by("README", line);
        Matcher text = TEXT.matcher(line);
        Matcher call = CALL.matcher(line);
        if (line.equals("ScansionDesk desk = new ScansionDesk();")) {
            desk = new ScansionDesk();
        } else if (text.matches()) {
            Texts.put(desk, text.group(1));
        } else if (call.matches()) {
            Due.is("", answer(call.group(1), call.group(2)), Long.parseLong(call.group(3)));
        } else {
            Due.is("can't be run", line, "a new desk, a text or a call with its answer");
        }
    }

    private static long answer(String name, String list) throws Exception {
        String[] told = list.isEmpty() ? new String[0] : list.split(", ");
        Object[] arguments = new Object[told.length];
        for (int k = 0; k < told.length; k++) {
            arguments[k] = told[k].equals("ScansionDesk.NONE") ? ScansionDesk.NONE : Integer.decode(told[k]);
        }
        for (Method m : ScansionDesk.class.getMethods()) {
            if (m.getName().equals(name) && m.getDeclaringClass() == ScansionDesk.class) {
                return ((Number) m.invoke(desk, arguments)).longValue();
            }
        }
        throw new IllegalArgumentException("no call " + name);
    }
}
