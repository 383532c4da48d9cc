import java.io.IOException;
import java.lang.reflect.Method;
import java.lang.reflect.Modifier;
import java.net.URL;
import java.net.URLClassLoader;
import java.nio.file.Files;
import java.nio.file.Path;
import java.util.Comparator;
import java.util.List;
import java.util.Set;
import java.util.TreeSet;
import java.util.regex.Matcher;
import java.util.regex.Pattern;
import java.util.stream.Collectors;
import java.util.stream.Stream;
import javax.tools.ToolProvider;

/** What README.md says is so: its calls answer as it says, and what it names is there. */
public final class ReadmeTest {
    private static final Check CHECK = new Check();
    private static final Pattern BLOCK = Pattern.compile("```(\\w+)\n(.*?)\n```", Pattern.DOTALL);
    private static final Pattern CALL =
        Pattern.compile("((?:int|long) \\w+ = )?(x\\.(\\w+)\\(.*\\)); +// (-?\\d+|[A-Z]+): \\S.*");
    private static final String ALL_TESTS = ".ci/run";
    private static final String FIRST_LINE = "LikestHeir x = new LikestHeir();";

    private static int calls;

    public static void main(String[] args) throws Exception {
        String readme = Files.readString(Path.of("README.md"));
        List<String> lines = blocks(readme, "java");
        tellStory(lines);
        CHECK.holds("the story has at most 512 calls", calls <= 512);
        showsAllCalls(lines);
        tellsFindings(readme);
        namesWhatIsThere(readme);
        runsCommands(blocks(readme, "sh"));
        CHECK.end();
    }

    /** The lines of all blocks in a language, from the first to the last. */
    private static List<String> blocks(String readme, String language) {
        return BLOCK.matcher(readme).results().filter(block -> block.group(1).equals(language))
            .flatMap(block -> block.group(2).lines()).collect(Collectors.toList());
    }

    /** Called by the story for each of its calls. */
    public static void answered(String line, long got, long want) {
        calls++;
        CHECK.due("README.md: " + line, got, want);
    }

    private static long answerDue(String told) throws ReflectiveOperationException {
        return told.matches("[A-Z]+") ? Check.class.getDeclaredField(told).getInt(null) : Long.parseLong(told);
    }

    /** The calls as they stand on the page, each with a line behind it that compares its answer. */
    private static String sourceOf(List<String> lines) throws ReflectiveOperationException {
        StringBuilder source = new StringBuilder("public class Story { public static void tell() {\nlong answer;\n");
        for (String line : lines) {
            Matcher call = CALL.matcher(line);
            if (line.equals(FIRST_LINE)) {
                source.append(line).append('\n');
                continue;
            }
            CHECK.holds("README.md tells what is answered by " + line, call.matches());
            if (call.matches()) {
                boolean isNamed = call.group(1) != null;
                String name = isNamed ? call.group(1).split(" ")[1] : "answer";
                source.append(isNamed ? call.group(1) : "answer = ").append(call.group(2)).append(";\n");
                source.append("ReadmeTest.answered(\"").append(call.group(2).replace("\"", "\\\"")).append("\", ")
                    .append(name).append(", ").append(answerDue(call.group(4))).append("L);\n");
            }
        }
        return source.append("} }\n").toString();
    }

    private static void tellStory(List<String> lines) throws IOException, ReflectiveOperationException {
        Path dir = Files.createTempDirectory("story");
        try {
            Path file = Files.writeString(dir.resolve("Story.java"), sourceOf(lines));
            int failed = ToolProvider.getSystemJavaCompiler().run(null, null, null, "-cp",
                System.getProperty("java.class.path"), "-d", dir.toString(), file.toString());
            CHECK.due("javac of the calls in README.md", failed, 0);
            if (failed == 0) {
                try (URLClassLoader loader = new URLClassLoader(new URL[] {dir.toUri().toURL()})) {
                    loader.loadClass("Story").getMethod("tell").invoke(null);
                }
            }
        } finally {
            remove(dir);
        }
    }

    private static void remove(Path dir) throws IOException {
        try (Stream<Path> all = Files.walk(dir)) {
            for (Path path : all.sorted(Comparator.reverseOrder()).collect(Collectors.toList())) {
                Files.delete(path);
            }
        }
    }

    private static void showsAllCalls(List<String> lines) {
        Set<String> shown = new TreeSet<>();
        for (String line : lines) {
            Matcher call = CALL.matcher(line);
            if (call.matches()) {
                shown.add(call.group(3));
            }
        }
        for (Method m : LikestHeir.class.getDeclaredMethods()) {
            if (Modifier.isPublic(m.getModifiers())) {
                CHECK.holds("README.md shows " + m.getName(), shown.contains(m.getName()));
            }
        }
    }

    /** The rows of the findings' table, by the document's own sentence. */
    private static void tellsFindings(String readme) throws IOException {
        String doc = Files.readString(Path.of("../shared/DOC.md"));
        Matcher row = Pattern.compile("\\| (-10\\d+) \\| ([A-Z]+) \\|").matcher(readme);
        int rows = 0;
        while (row.find()) {
            rows++;
            CHECK.holds("the document says " + row.group(), doc.contains(row.group(1) + " " + row.group(2)));
        }
        CHECK.due("findings in README.md", rows, 7);
    }

    private static void namesWhatIsThere(String readme) throws IOException {
        Matcher path = Pattern.compile("(?:\\.\\./shared|src|\\.ci)/[\\w./]*\\w").matcher(readme);
        while (path.find()) {
            CHECK.holds("README.md names " + path.group(), Files.exists(Path.of(path.group())));
        }
        try (Stream<Path> files = Files.list(Path.of("src/test/java"))) {
            for (Path file : files.collect(Collectors.toList())) {
                String name = file.getFileName().toString().replace(".java", "");
                CHECK.holds("README.md tells of " + name, !name.endsWith("Test") || readme.contains("`" + name + "`")
                    || name.startsWith("EdgesOf") && readme.contains("`EdgesOf..Test`"));
            }
        }
    }

    /** Each command in its turn, but for .ci/run, which runs this test itself. */
    private static void runsCommands(List<String> commands) throws IOException, InterruptedException {
        CHECK.holds("README.md says to run " + ALL_TESTS, commands.contains(ALL_TESTS));
        CHECK.holds(ALL_TESTS + " can be run", Files.isExecutable(Path.of(ALL_TESTS)));
        Path dir = Files.createTempDirectory("out");
        try {
            for (String command : commands) {
                if (!command.equals(ALL_TESTS)) {
                    Process run = new ProcessBuilder("sh", "-c", command.replace(" OUT ", " " + dir + " ")).inheritIO()
                        .start();
                    CHECK.due("README.md: " + command, run.waitFor(), 0);
                }
            }
        } finally {
            remove(dir);
        }
    }
}
