import java.net.URL;
import java.net.URLClassLoader;
import java.nio.file.Files;
import java.nio.file.Path;
import java.util.ArrayList;
import java.util.List;
import java.util.Set;
import java.util.TreeSet;
import java.util.regex.Matcher;
import java.util.regex.Pattern;
import javax.tools.ToolProvider;

/**
 * What README.md shows of the class's use answers as README.md says, and it shows every promise's call; so does what
 * it says of running tests. The first block of Java there is a method, the second one calls with their answers.
 */
public final class ReadmeTest {
    private static final Path README = Path.of("README.md");
    private static final Path DOCUMENT = Path.of("../shared/DOC.md");
    private static final Path TESTS = Path.of("src/test/java");
    private static final Pattern BLOCK = Pattern.compile("```java\n(.*?)```", Pattern.DOTALL);
    private static final Pattern CALL = Pattern.compile("(\\w.*);\\s+// (-?\\d+)(: .*)?");
    private static final Pattern NO_CALL = Pattern.compile("|// .*|UnlikeRoofs roofs = new UnlikeRoofs\\(\\);");

    private final String readme;
    private final List<String> calls = new ArrayList<>();
    private final List<Long> answers = new ArrayList<>();

    private ReadmeTest() throws Exception {
        readme = Files.readString(README);
    }

    public static void main(String[] args) throws Exception {
        ReadmeTest test = new ReadmeTest();
        test.shownCallsAnswerSo();
        test.showsEachPromise();
        test.tellsConstants();
        test.tellsHowToRunTests();
        Due.finish();
    }

    private static void holds(String what, boolean good) {
        Due.is(what, good ? 1 : 0, 1);
    }

    private void shownCallsAnswerSo() throws Exception {
        List<String> blocks = BLOCK.matcher(readme).results().map(m -> m.group(1)).toList();
        Due.is("blocks of Java in README.md", blocks.size(), 2);
        if (blocks.size() != 2) {
            return;
        }
        long[] got = answersOf("public final class Shown {\n" + blocks.get(0) + "public static long[] answers() {\n"
            + "java.util.List<Long> all = new java.util.ArrayList<>();\n" + asking(blocks.get(1))
            + "return all.stream().mapToLong(Long::longValue).toArray();\n}\n}\n");
        Due.is("answers of README.md", got.length, calls.size());
        for (int i = 0; i < got.length; i++) {
            Due.is("README.md: " + calls.get(i), got[i], answers.get(i));
        }
    }

    /** The block's lines, each call among them noted with what README.md says that it answers. */
    private String asking(String block) {
        StringBuilder java = new StringBuilder();
        for (String line : block.split("\n")) {
            Matcher m = CALL.matcher(line);
            if (m.matches()) {
                calls.add(m.group(1));
                answers.add(Long.parseLong(m.group(2)));
                java.append("all.add((long) ").append(m.group(1)).append(");\n");
            } else {
                holds("README.md tells no answer: " + line, NO_CALL.matcher(line).matches());
                java.append(line).append('\n');
            }
        }
        return java.toString();
    }

    private static long[] answersOf(String source) throws Exception {
        Path folder = Files.createTempDirectory("shown");
        Path file = folder.resolve("Shown.java");
        try {
            Files.writeString(file, source);
            int failed = ToolProvider.getSystemJavaCompiler().run(null, null, null, "-proc:none", "-cp",
                System.getProperty("java.class.path"), "-d", folder.toString(), file.toString());
            Due.is("the compiler on what README.md shows", failed, 0);
            return failed == 0 ? run(folder) : new long[0];
        } finally {
            Files.deleteIfExists(folder.resolve("Shown.class"));
            Files.deleteIfExists(file);
            Files.delete(folder);
        }
    }

    private static long[] run(Path folder) throws Exception {
        try (URLClassLoader loader = new URLClassLoader(new URL[] {folder.toUri().toURL()})) {
            return (long[]) loader.loadClass("Shown").getMethod("answers").invoke(null);
        }
    }

    private void showsEachPromise() throws Exception {
        Set<String> due = new TreeSet<>();
        Matcher m = Pattern.compile("public (?:int|long) (\\w+)\\(").matcher(Files.readString(DOCUMENT));
        while (m.find()) {
            due.add(m.group(1));
        }
        Due.is("methods that the document tells", due.size(), 28);
        for (String name : due) {
            holds("README.md shows " + name, calls.stream().anyMatch(c -> c.startsWith("roofs." + name + "(")));
        }
    }

    /** Each as `NAME` (number), in text that may be broken between the two. */
    private void tellsConstants() {
        String text = readme.replace('\n', ' ');
        Object[][] constants = {{"BAD", UnlikeRoofs.BAD}, {"STATE", UnlikeRoofs.STATE}, {"FULL", UnlikeRoofs.FULL},
            {"NONE", UnlikeRoofs.NONE}, {"NO", UnlikeRoofs.NO}};
        for (Object[] constant : constants) {
            String told = "`" + constant[0] + "` (" + constant[1] + ")";
            holds("README.md tells " + told, text.contains(told));
        }
    }

    private void tellsHowToRunTests() {
        holds("README.md tells .ci/run", readme.contains("\n    .ci/run\n"));
        holds(".ci/run is there to be run", Files.isExecutable(Path.of(".ci/run")));
        Matcher m = Pattern.compile("src/(?:main|test)/java/\\w+\\.java|\\b[A-Z]\\w+Test\\b").matcher(readme);
        while (m.find()) {
            Path told = m.group().contains("/") ? Path.of(m.group()) : TESTS.resolve(m.group() + ".java");
            holds("README.md names a file: " + told, Files.exists(told));
        }
    }
}
