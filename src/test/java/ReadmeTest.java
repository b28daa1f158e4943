import java.io.IOException;
import java.lang.reflect.Method;
import java.nio.charset.StandardCharsets;
import java.nio.file.Files;
import java.nio.file.Path;
import java.util.ArrayList;
import java.util.Comparator;
import java.util.List;
import java.util.Set;
import java.util.TreeSet;
import java.util.regex.Matcher;
import java.util.regex.Pattern;
import java.util.stream.Collectors;
import java.util.stream.Stream;

/** What README.md says of the class's use and of its tests is so. Run in the project's folder. */
public final class ReadmeTest {
    private static final Pattern ANSWERED = Pattern.compile("(?s)(.*;)\\s+// (-?\\d+|true|false)\\b[^\n]*\n");
    private static final Pattern NAMED = Pattern.compile("(?s)\\s*int (\\w+) = .*;");

    private ReadmeTest() {
    }

    public static void main(String[] args) throws IOException, InterruptedException {
        String page = Files.readString(Path.of("README.md"));
        Path dir = Files.createTempDirectory("readme");
        try {
            copySources(dir);
            commands(page, dir);
            answers(page, dir);
        } finally {
            delete(dir);
        }
        callsAreNamed(page);
        testsAreNamed(page);
        Checks.due(".ci/run can be run", Files.isExecutable(Path.of(".ci/run")), true);
        Checks.end();
    }

    /** The page's blocks of one sort. */
    private static List<String> blocks(String page, String sort) {
        List<String> all = new ArrayList<>();
        Matcher block = Pattern.compile("(?s)```" + sort + "\n(.*?)```").matcher(page);
        while (block.find()) {
            all.add(block.group(1));
        }
        return all;
    }

    private static String only(String page, String sort) {
        List<String> all = blocks(page, sort);
        Checks.due("blocks of " + sort, all.size(), 1);
        return all.get(0);
    }

    /** Each block of commands as it stands there, but for that which runs all tests. */
    private static void commands(String page, Path dir) throws IOException, InterruptedException {
        Files.writeString(dir.resolve("Example.java"), only(page, "java"));
        List<String> blocks = blocks(page, "sh");
        Checks.due("a block runs all tests", blocks.remove(".ci/run\n"), true);
        Checks.due("other blocks of commands", blocks.size(), 2);
        String printed = only(page, "text");
        String out = run(dir, blocks.get(0));
        Checks.due("the example prints what the page says, and not " + out, out.equals(printed), true);
        out = run(dir, blocks.get(1));
        Checks.due("a test by itself passes: " + out, out.endsWith(", 0 not as due\n"), true);
    }

    /** The example once more, with a look at each answer that the page tells. */
    private static void answers(String page, Path dir) throws IOException, InterruptedException {
        String program = only(page, "java");
        StringBuilder looking = new StringBuilder();
        int looked = 0;
        for (String statement : statements(program)) {
            Matcher answered = ANSWERED.matcher(statement);
            boolean isAnswered = answered.matches();
            looking.append(isAnswered ? look(answered.group(1), answered.group(2)) : statement);
            looked += isAnswered ? 1 : 0;
        }
        long remarks = program.lines().filter(line -> line.matches(".*;\\s+// .*")).count();
        Checks.due("remarks that tell an answer", looked, remarks);
        Checks.due("there are some", looked > 20, true);
        int mainEnd = looking.lastIndexOf("    }\n}");
        looking.insert(mainEnd, "        Checks.end();\n");
        Files.writeString(dir.resolve("Example.java"), looking);
        String out = run(dir, "javac -d look -sourcepath src/test/java src/main/java/KeepForget.java Example.java\n"
            + "java -cp look Example\n");
        String want = looked + " answers looked at, 0 not as due\n";
        Checks.due("the example answers what the page says: " + out, out.endsWith(want), true);
    }

    /** Lines, but those that belong to one statement together. */
    private static List<String> statements(String program) {
        List<String> all = new ArrayList<>();
        StringBuilder statement = new StringBuilder();
        for (String line : program.split("\n")) {
            statement.append(line).append('\n');
            if (!line.endsWith("\"")) {
                all.add(statement.toString());
                statement.setLength(0);
            }
        }
        return all;
    }

    private static String look(String statement, String answer) {
        String call = statement.substring(0, statement.length() - 1).strip();
        Matcher named = NAMED.matcher(statement);
        String label = "\"" + call.replaceAll("[\"\\s]+", " ") + "\", ";
        return named.matches() ? statement + " Checks.due(" + label + named.group(1) + ", " + answer + ");\n"
            : "Checks.due(" + label + call + ", " + answer + ");\n";
    }

    private static String run(Path dir, String commands) throws IOException, InterruptedException {
        Process shell = new ProcessBuilder("sh", "-e", "-c", commands).directory(dir.toFile())
            .redirectError(ProcessBuilder.Redirect.INHERIT).start();
        String out = new String(shell.getInputStream().readAllBytes(), StandardCharsets.UTF_8);
        Checks.due("the exit code of " + commands + out, shell.waitFor(), 0);
        return out;
    }

    private static void callsAreNamed(String page) {
        for (Method call : KeepForget.class.getMethods()) {
            if (call.getDeclaringClass() == KeepForget.class) {
                Checks.due("the page's table names " + call.getName(), page.contains("`" + call.getName() + "`"), true);
            }
        }
    }

    private static void testsAreNamed(String page) throws IOException {
        Set<String> named = new TreeSet<>();
        Matcher name = Pattern.compile("`(\\w+Test)`").matcher(page);
        while (name.find()) {
            named.add(name.group(1));
        }
        try (Stream<Path> files = Files.list(Path.of("src/test/java"))) {
            Set<String> there = files.map(f -> f.getFileName().toString()).filter(f -> f.endsWith("Test.java"))
                .map(f -> f.replace(".java", "")).collect(Collectors.toCollection(TreeSet::new));
            Checks.due("the page names " + named + ", there are " + there, named.equals(there), true);
        }
    }

    private static void copySources(Path dir) throws IOException {
        try (Stream<Path> files = Files.walk(Path.of("src"))) {
            for (Path file : files.toList()) {
                Files.copy(file, dir.resolve(file));
            }
        }
    }

    private static void delete(Path dir) throws IOException {
        try (Stream<Path> files = Files.walk(dir)) {
            for (Path file : files.sorted(Comparator.reverseOrder()).toList()) {
                Files.delete(file);
            }
        }
    }
}
