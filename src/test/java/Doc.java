import java.io.IOException;
import java.nio.charset.StandardCharsets;
import java.nio.file.Files;
import java.nio.file.Path;
import java.util.ArrayList;
import java.util.HashSet;
import java.util.List;
import java.util.Set;

/** The document's sentences: a test quotes the one that it tests, and no line of a promise may stay unquoted. */
final class Doc {
    private static final Path FILE = Path.of("..", "shared", "DOC.md");
    private static final List<String> LINES = read();
    private static final Set<String> QUOTED = new HashSet<>();
    private static String chapter = "";

    private Doc() {
    }

    private static List<String> read() {
        try {
            return Files.readAllLines(FILE, StandardCharsets.UTF_8);
        } catch (IOException e) {
            throw new IllegalStateException("the document can't be read: " + FILE, e);
        }
    }

    static void terms() {
        chapter = "Terms";
    }

    static void promise(int number) {
        chapter = "Promise " + number;
    }

    /** Begins the test of a sentence of the chapter that was named last. */
    static void says(String sentence) {
        boolean isThere = false;
        for (String line : linesOf(chapter)) {
            isThere |= line.contains(sentence);
        }
        if (!isThere) {
            Check.fail(chapter + " does not say: " + sentence);
        }
        if (!QUOTED.add(chapter + sentence)) {
            Check.fail(chapter + " is quoted twice: " + sentence);
        }
        Check.about(chapter + ", " + sentence);
    }

    /** Ends the tests of these promises: each line of them must have been quoted whole. */
    static void allSaid(int from, int to) {
        for (int number = from; number <= to; number++) {
            String promise = "Promise " + number;
            List<String> lines = linesOf(promise);
            Check.about(promise);
            Check.same("it is in the document", House.bit(!lines.isEmpty()), 1);
            for (String line : lines) {
                Check.same("tested: " + line, House.bit(QUOTED.contains(promise + withoutFace(line))), 1);
            }
        }
    }

    /** The lines of a chapter with words in them, up to the next chapter of the same kind. */
    private static List<String> linesOf(String chapter) {
        List<String> found = new ArrayList<>();
        boolean isIn = false;
        for (String line : LINES) {
            if (line.startsWith("## ")) {
                String title = line.substring(3);
                isIn = title.equals(chapter) || title.startsWith(chapter + ":");
            } else if (isIn && !line.isBlank() && !line.startsWith("### ")) {
                found.add(line);
            }
        }
        return found;
    }

    /** A promise's first line begins with the call's face, which FaceTest tests. */
    private static String withoutFace(String line) {
        int end = line.indexOf("`: ");
        return line.startsWith("`") && end >= 0 ? line.substring(end + 3) : line;
    }
}
