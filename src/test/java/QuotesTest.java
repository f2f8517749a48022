import java.nio.file.Files;
import java.nio.file.Path;
import java.util.ArrayList;
import java.util.BitSet;
import java.util.HashSet;
import java.util.List;
import java.util.Set;
import java.util.TreeSet;
import java.util.regex.Matcher;
import java.util.regex.Pattern;
import java.util.stream.Stream;

/**
 * Holds the Edges tests against the document: each of their tests quotes a sentence that stands there, letter by
 * letter, by the number of its promise, and is called; and no sentence from "Terms" on is without a test.
 */
public final class QuotesTest {
    private static final Path TESTS = Path.of("src/test/java");
    private static final Path DOCUMENT = Path.of("../shared/DOC.md");
    private static final int PROMISES = 29;

    private static final Pattern TEST = Pattern.compile("((?:    //[^\n]*\n)*)    private static void (\\w+)\\(\\) \\{");
    private static final Pattern COMMENT = Pattern.compile("Promises? (\\d[\\d, andto]*): (.*)");
    private static final Pattern NUMBERS = Pattern.compile("(\\d+)(?: to (\\d+))?");
    /** What tells nothing of its own: headings, names of sections, the face's signatures. */
    private static final Pattern NO_SENTENCE = Pattern.compile("## Terms|## Promise \\d+: [\\w ]+(?= `)"
        + "|`(?:int |long |)\\w+\\([^)]*\\)`:|The constants:|======== \\d"
        + "|Ahead of the calls [`\\w, ]+ the interface says: ---- [\\w ,]+\\.");

    private final String document;
    private final BitSet quoted;
    private final Set<Integer> named = new TreeSet<>();
    private int tests = 0;

    private QuotesTest() throws Exception {
        document = oneLine(Files.readString(DOCUMENT).replace("```java", "").replace("```text", "").replace("```", ""));
        quoted = new BitSet(document.length());
    }

    public static void main(String[] args) throws Exception {
        new QuotesTest().run();
        Due.finish();
    }

    private static void holds(String what, boolean good) {
        Due.is(what, good ? 1 : 0, 1);
    }

    private static String oneLine(String text) {
        return text.replaceAll("\\s+", " ").trim();
    }

    private void run() throws Exception {
        try (Stream<Path> files = Files.list(TESTS)) {
            for (Path file : files.sorted().toList()) {
                if (file.getFileName().toString().matches("Edges\\w+Test\\.java")) {
                    testsOf(file.getFileName().toString(), Files.readString(file));
                }
            }
        }
        holds("there are tests", tests > PROMISES);
        for (int promise = 1; promise <= PROMISES; promise++) {
            holds("promise " + promise + " has a test", named.contains(promise));
        }
        nothingLeftOut();
    }

    private void testsOf(String file, String source) {
        int start = source.indexOf("void main(");
        String main = source.substring(start, source.indexOf("    }\n", start));
        Set<String> names = new HashSet<>();
        Matcher m = TEST.matcher(source);
        while (m.find()) {
            tests++;
            String name = m.group(2);
            holds(file + ": only one " + name, names.add(name));
            holds(file + ": " + name + " is called", main.contains("\n        " + name + "();\n"));
            quote(file + ": " + name, oneLine(m.group(1).replaceAll("(?m)^    //", "")));
        }
    }

    private void quote(String test, String comment) {
        Matcher m = COMMENT.matcher(comment);
        if (!m.matches()) {
            holds(test + " names promise and sentence", false);
            return;
        }
        List<Integer> promises = numbers(m.group(1));
        named.addAll(promises);
        String sentence = m.group(2);
        int at = placeOf(sentence, promises);
        holds(test + " quotes what stands there: " + sentence, at >= 0);
        if (at >= 0) {
            quoted.set(at, at + sentence.length());
        }
    }

    /** In the section of one of these promises, or else ahead of all of them. */
    private int placeOf(String sentence, List<Integer> promises) {
        for (int promise : promises) {
            int found = document.indexOf(sentence, startOf(promise));
            if (found >= 0 && found + sentence.length() <= startOf(promise + 1)) {
                return found;
            }
        }
        int found = document.indexOf(sentence);
        return found + sentence.length() <= startOf(1) ? found : -1;
    }

    private static List<Integer> numbers(String text) {
        List<Integer> all = new ArrayList<>();
        Matcher m = NUMBERS.matcher(text);
        while (m.find()) {
            int last = Integer.parseInt(m.group(2) == null ? m.group(1) : m.group(2));
            for (int n = Integer.parseInt(m.group(1)); n <= last; n++) {
                holds("a promise " + n, n >= 1 && n <= PROMISES);
                all.add(n);
            }
        }
        return all;
    }

    /** Where a promise begins; where the last one ends, for the one behind it. */
    private int startOf(int promise) {
        return document.indexOf(promise > PROMISES ? "## Not promised" : "## Promise " + promise + ": ");
    }

    private void nothingLeftOut() {
        Matcher m = NO_SENTENCE.matcher(document);
        while (m.find()) {
            quoted.set(m.start(), m.end());
        }
        int end = startOf(PROMISES + 1);
        quoted.set(end);
        int at = document.indexOf("## Terms");
        while (at < end) {
            int from = quoted.nextClearBit(at);
            at = quoted.nextSetBit(Math.min(from, end));
            String left = document.substring(Math.min(from, at), at);
            holds("no test quotes: " + left, !left.matches(".*\\w.*"));
        }
    }
}
