import java.io.IOException;
import java.net.URL;
import java.net.URLClassLoader;
import java.nio.file.Files;
import java.nio.file.Path;
import java.util.ArrayList;
import java.util.Comparator;
import java.util.List;
import java.util.Set;
import java.util.TreeSet;
import java.util.regex.Matcher;
import java.util.regex.Pattern;
import java.util.stream.Stream;
import javax.tools.ToolProvider;

/** What README.md says of answers is what the class answers: its lines are compiled and run. */
public final class ReadmeTest {
    private static final Path README = Path.of("README.md");
    private static final Path TESTS = Path.of("src/test/java");
    private static final Pattern BLOCK = Pattern.compile("(?s)```java\n(.*?)```");
    private static final Pattern ANSWERED = Pattern.compile("(x\\.(\\w+)\\(.*\\)); +// -> (-?\\d+|true|false)(: .+)?");
    /** The calls that tell how the class is used, which the page has to show. */
    private static final List<String> SHOWN = List.of("town", "days", "live", "lived", "status",
            "fault", "mean", "odds", "top", "bottom", "mark", "back");

    private static final List<String> asked = new ArrayList<>();
    private static final List<String> due = new ArrayList<>();
    private static final Set<String> shown = new TreeSet<>();

    /** A call's line becomes one that keeps its answer; others stay as they are. */
    private static String kept(String line) {
        Matcher answered = ANSWERED.matcher(line);
        boolean told = answered.matches();
        Check.due("README.md tells an answer: " + line, told, line.startsWith("x."));
        if (!told) {
            return line;
        }
        asked.add(answered.group(1));
        shown.add(answered.group(2));
        due.add(answered.group(3));
        return "got.add(String.valueOf(" + answered.group(1) + "));";
    }

    /** One class of all the page's blocks: a method stands beside, all else in one method. */
    private static String program(String page) {
        StringBuilder beside = new StringBuilder();
        StringBuilder steps = new StringBuilder();
        Matcher block = BLOCK.matcher(page);
        while (block.find()) {
            if (block.group(1).startsWith("static ")) {
                beside.append(block.group(1));
                continue;
            }
            for (String line : block.group(1).split("\n")) {
                steps.append(kept(line)).append('\n');
            }
        }
        return "public final class ReadmeRun {\n" + beside
                + "public static java.util.List<String> run() {\n"
                + "java.util.List<String> got = new java.util.ArrayList<>();\n"
                + steps + "return got;\n}\n}\n";
    }

    private static List<?> run(String program, Path room) throws IOException, ReflectiveOperationException {
        Path source = room.resolve("ReadmeRun.java");
        Files.writeString(source, program);
        int code = ToolProvider.getSystemJavaCompiler().run(null, null, null, "-Xlint:all", "-Werror",
                "-cp", System.getProperty("java.class.path"), "-d", room.toString(), source.toString());
        Check.due("README.md compiles", code, 0);
        if (code != 0) {
            return List.of();
        }
        URL[] where = {room.toUri().toURL()};
        try (URLClassLoader loader = new URLClassLoader(where, ReadmeTest.class.getClassLoader())) {
            return (List<?>) loader.loadClass("ReadmeRun").getMethod("run").invoke(null);
        }
    }

    private static void answers(String page) throws IOException, ReflectiveOperationException {
        String program = program(page);
        Path room = Files.createTempDirectory("readme");
        try {
            List<?> got = run(program, room);
            Check.due("README.md: answers", got.size(), due.size());
            for (int i = 0; i < got.size(); i++) {
                Check.due("README.md: " + asked.get(i) + " -> " + due.get(i) + ", it is " + got.get(i),
                        got.get(i).equals(due.get(i)), true);
            }
        } finally {
            remove(room);
        }
        for (String call : SHOWN) {
            Check.due("README.md shows " + call + "()", shown.contains(call), true);
        }
        Check.due("README.md makes an object", program.contains("new PaperBread()"), true);
        Check.due("README.md feeds", program.contains("x.feed("), true);
    }

    private static void remove(Path room) throws IOException {
        try (Stream<Path> all = Files.walk(room)) {
            for (Path path : all.sorted(Comparator.reverseOrder()).toList()) {
                Files.delete(path);
            }
        }
    }

    /** The table of tests has each test of the project, and no other. */
    private static void table(String page) throws IOException {
        Set<String> named = new TreeSet<>();
        Matcher row = Pattern.compile("(?m)^\\| (\\w+Test) \\|").matcher(page);
        while (row.find()) {
            named.add(row.group(1));
        }
        Set<String> there = new TreeSet<>();
        try (Stream<Path> files = Files.list(TESTS)) {
            for (Path file : files.toList()) {
                String name = file.getFileName().toString();
                if (name.endsWith("Test.java")) {
                    there.add(name.substring(0, name.length() - ".java".length()));
                }
            }
        }
        Check.due("README.md names the tests " + named + ", there are " + there, named.equals(there), true);
        Check.due("README.md tells how they are run", page.contains("\nbash .ci/run\n"), true);
    }

    /** The table of STATUS has the document's numbers, each with words that it has there. */
    private static void statuses(String page) {
        String document = Document.sections().get("==== 5.");
        Matcher row = Pattern.compile("(?m)^\\| (\\d+) \\| (.*) \\|$").matcher(page);
        int next = 0;
        while (row.find()) {
            Check.due("README.md: the number of a STATUS", Integer.parseInt(row.group(1)), next);
            String words = row.group(2).split(",| in ")[0];
            Check.due("README.md: STATUS " + next + " is " + words,
                    next == 0 || document.contains(" " + next + " " + words), true);
            next++;
        }
        Check.due("README.md: every STATUS", next, 12);
    }

    public static void main(String[] args) throws IOException, ReflectiveOperationException {
        String page = Files.readString(README);
        answers(page);
        table(page);
        statuses(page);
        Check.end();
    }
}
