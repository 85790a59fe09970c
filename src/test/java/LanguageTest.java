import com.sun.management.ThreadMXBean;
import java.io.IOException;
import java.lang.management.ManagementFactory;
import java.lang.reflect.Executable;
import java.lang.reflect.Field;
import java.lang.reflect.Method;
import java.lang.reflect.Modifier;
import java.nio.charset.StandardCharsets;
import java.nio.file.Files;
import java.nio.file.Path;
import java.util.ArrayList;
import java.util.List;
import java.util.Set;
import java.util.regex.Matcher;
import java.util.regex.Pattern;

/** The rules of ../shared/LANGUAGE.md that can be read off the program's text and classes, and what a run makes. */
public final class LanguageTest {
    private static final Path FILE = Path.of("src", "main", "java", "TermGate.java");
    private static final Set<String> IMPORTS = Set.of("java.util.ArrayList", "java.util.Arrays", "java.util.Iterator",
        "java.util.List", "java.util.NoSuchElementException");
    private static final Set<String> THROWN = Set.of("IllegalStateException", "IllegalArgumentException",
        "IndexOutOfBoundsException");

    /** What no line may hold: the rule's number, and a pattern. */
    private static final String[][] FORBIDDEN = {
        {"1", "\\b(protected|package)\\b"},
        {"2", "->|::"},
        {"3", "\\b(Object|Map|Set|HashMap|Boolean|Long|Double|Character|BigInteger)\\b"},
        {"4", "Exact\\b|\\bSystem\\.(?!arraycopy)|\\bMath\\.(?!(abs|max|min|floorDiv|floorMod)\\b)"},
        {"5", "\\bstatic\\s*\\{"},
        {"6", "\\b(finally|synchronized|assert|getMessage|printStackTrace)\\b|try \\("},
        {"7", "\\b(ArrayIndexOutOfBounds|NullPointer|ClassCast|NegativeArraySize|ArrayStore)Exception\\b"},
        {"9", "while \\(true\\)|for \\(;;\\)"},
        {"10", "\"\\s*\\+|\\+\\s*\""},
        {"13", "\\b(Random|Thread|nanoTime|currentTimeMillis|File|Files|getenv|hashCode|identityHashCode)\\b"},
    };

    public static void main(String[] args) throws IOException {
        String text = Files.readString(FILE, StandardCharsets.UTF_8);
        checkText(text);
        checkMethodLengths(text);
        List<Class<?>> classes = new ArrayList<>(List.of(TermGate.class.getDeclaredClasses()));
        classes.add(TermGate.class);
        Check.same("rule 11: some twelve classes at most", House.bit(classes.size() <= 12), 1);
        for (Class<?> type : classes) {
            checkClass(type);
        }
        checkRoom();
        Check.end();
    }

    private static void checkText(String text) {
        String code = text.replaceAll("(?s)/\\*.*?\\*/", "").replaceAll("//[^\n]*", "");
        for (String[] rule : FORBIDDEN) {
            Matcher found = Pattern.compile(rule[1]).matcher(code);
            Check.same("rule " + rule[0] + " forbids", found.find() ? found.group() : "", "");
        }
        checkEach("import", code, "(?m)^import ([\\w.*]+);", IMPORTS);
        checkEach("throw", code, "\\bthrow\\s+new\\s+(\\w+)\\(", THROWN);
        Check.same("rule 6: nothing is thrown but what is made there",
            House.bit(Pattern.compile("\\bthrow\\s+(?!new\\b)").matcher(code).find()), 0);
        Check.same("rule 3: characters 0 to 127", House.bit(text.chars().allMatch(sign -> sign < 128)), 1);
    }

    private static void checkEach(String what, String code, String pattern, Set<String> allowed) {
        Matcher found = Pattern.compile(pattern).matcher(code);
        while (found.find()) {
            Check.same(what + " of " + found.group(1), House.bit(allowed.contains(found.group(1))), 1);
        }
    }

    /** A method's lines stand between its head and the brace that closes it, both as deep as each other. */
    private static void checkMethodLengths(String text) {
        String[] lines = text.split("\n");
        for (int from = 0; from < lines.length; from++) {
            String indent = lines[from].replaceAll("\\S.*", "");
            boolean isHead = lines[from].matches(" +[^=]*\\w\\(.*\\{") && !lines[from].trim().matches("(if|for|while|\\}).*");
            int to = from;
            while (isHead && to < lines.length && !lines[to].equals(indent + "}")) {
                to++;
            }
            if (to - from + 1 > 60) {
                Check.fail("rule 11: too long: " + lines[from].trim());
            }
        }
    }

    private static void checkClass(Class<?> type) {
        int fields = 0;
        for (Field field : type.getDeclaredFields()) {
            boolean isStatic = Modifier.isStatic(field.getModifiers());
            fields += House.bit(!isStatic && !field.isSynthetic());
            if (isStatic && !Modifier.isFinal(field.getModifiers())) {
                Check.fail("rule 5: static and not final: " + field);
            }
        }
        Check.same("rule 11: some twenty fields at most in " + type, House.bit(fields <= 20), 1);
        for (Method method : type.getDeclaredMethods()) {
            checkExecutable(method);
            boolean isOfObject = Set.of("equals", "hashCode", "toString").contains(method.getName());
            Check.same("rule 6: no such method: " + method, House.bit(isOfObject), 0);
        }
        for (Executable constructor : type.getDeclaredConstructors()) {
            checkExecutable(constructor);
        }
    }

    private static void checkExecutable(Executable method) {
        Check.same("rule 11: seven parameters at most: " + method, House.bit(method.getParameterCount() <= 7), 1);
    }

    /** The room of all calls is 600,000 objects and 7.3 million elements; this run is to stay far below it. */
    private static void checkRoom() {
        ThreadMXBean room = (ThreadMXBean) ManagementFactory.getThreadMXBean();
        run();
        long before = room.getCurrentThreadAllocatedBytes();
        int calls = run();
        long made = room.getCurrentThreadAllocatedBytes() - before;
        Check.same("the run has 512 calls", calls, 512);
        Check.same("rule 12: a run that makes " + made + " bytes", House.bit(made < 100_000), 1);
    }

    /** All orders and sales that there can be, and then questions; returns how many calls it was. */
    private static int run() {
        TermGate x = House.drafted(0, 1, 2, 3, 4, 5, 6, 7);
        int calls = 9;
        for (int number = 0; number < 60; number++, calls++) {
            x.order(number % 4, number % 3 == 0);
        }
        for (int number = 0; number < 40; number++, calls += 2) {
            x.take(0);
            for (int place = 0; number == 0 && place < 8; place++, calls++) {
                x.translate(0, place, 5);
            }
            x.deliver(0);
        }
        for (; calls + 4 <= 512; calls += 4) {
            x.say(calls % 3, 0, 1, calls % 5);
            x.cost(0, true);
            x.best(1);
            x.bestByAll(2);
        }
        for (; calls < 512; calls++) {
            x.purse();
        }
        return calls;
    }
}
