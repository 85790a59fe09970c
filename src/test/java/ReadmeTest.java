import java.io.IOException;
import java.lang.reflect.InvocationTargetException;
import java.lang.reflect.Method;
import java.lang.reflect.Modifier;
import java.nio.charset.StandardCharsets;
import java.nio.file.Files;
import java.nio.file.Path;
import java.util.ArrayList;
import java.util.List;
import java.util.regex.Matcher;
import java.util.regex.Pattern;

/** README.md's example answers what it says, and each call of the face is named there. */
public final class ReadmeTest {
    private static final Path FILE = Path.of("README.md");
    private static final String FIRST_LINE = "TermGate house = new TermGate();";
    private static final Pattern CALL = Pattern.compile("house\\.(\\w+)\\((.*)\\); +// (-?\\d+)(:.*)?");

    public static void main(String[] args) throws IOException {
        String readme = Files.readString(FILE, StandardCharsets.UTF_8);
        checkExample(exampleOf(readme));
        checkNames(readme);
        Check.end();
    }

    /** The lines of the only block that is marked as Java. */
    private static List<String> exampleOf(String readme) {
        List<String> found = new ArrayList<>();
        boolean isIn = false;
        for (String line : readme.split("\n")) {
            if (line.startsWith("```")) {
                isIn = line.equals("```java");
            } else if (isIn) {
                found.add(line);
            }
        }
        return found;
    }

    private static void checkExample(List<String> lines) {
        Check.about("README's example");
        Check.same("its first line", lines.isEmpty() ? "" : lines.get(0), FIRST_LINE);
        TermGate house = new TermGate();
        for (int at = 1; at < lines.size(); at++) {
            Matcher call = CALL.matcher(lines.get(at));
            if (call.matches()) {
                String[] arguments = call.group(2).isEmpty() ? new String[0] : call.group(2).split(", ");
                Check.same(lines.get(at), answerOf(house, call.group(1), arguments), call.group(3));
            } else {
                Check.fail("no call with its answer: " + lines.get(at));
            }
        }
    }

    private static String answerOf(TermGate house, String name, String[] arguments) {
        for (Method method : TermGate.class.getMethods()) {
            if (method.getName().equals(name) && method.getParameterCount() == arguments.length) {
                return answerOf(house, method, arguments);
            }
        }
        return "no such call";
    }

    private static String answerOf(TermGate house, Method method, String[] arguments) {
        Object[] values = new Object[arguments.length];
        for (int at = 0; at < values.length; at++) {
            boolean isTruth = method.getParameterTypes()[at] == boolean.class;
            values[at] = isTruth ? (Object) Boolean.valueOf(arguments[at]) : (Object) Integer.valueOf(arguments[at]);
        }
        try {
            return String.valueOf(method.invoke(house, values));
        } catch (InvocationTargetException e) {
            return e.getCause().getClass().getSimpleName();
        } catch (IllegalAccessException e) {
            return "no public call";
        }
    }

    private static void checkNames(String readme) {
        Check.about("README's table of calls");
        for (Method method : TermGate.class.getDeclaredMethods()) {
            if (Modifier.isPublic(method.getModifiers())) {
                String name = "`" + method.getName() + "`";
                Check.same("it names " + name, House.bit(readme.contains(name)), 1);
            }
        }
    }
}
