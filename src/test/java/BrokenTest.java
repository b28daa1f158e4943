import java.io.IOException;
import java.io.OutputStream;
import java.io.PrintStream;
import java.lang.reflect.Field;
import java.lang.reflect.InvocationTargetException;
import java.lang.reflect.Method;
import java.net.URL;
import java.net.URLClassLoader;
import java.nio.file.Files;
import java.nio.file.Path;
import java.util.ArrayList;
import java.util.Arrays;
import java.util.Collection;
import java.util.Comparator;
import java.util.List;
import java.util.NoSuchElementException;
import java.util.stream.Collectors;
import java.util.stream.IntStream;
import java.util.stream.Stream;
import javax.tools.ToolProvider;

/**
 * A test of the tests: the class stands behind a face that breaks one promise in one way, and EdgesTest
 * must tell a wrong answer under words of that very promise. Run in the project's folder.
 */
public final class BrokenTest {
    /** From promise 2 on: the call, then answers that the document names; each of them alone is made wrong. */
    private static final String[] CALLS = {
        "day 0 200000", "date", "later 999999", "feed -1 20 1000", "rules 0 -2 -3 -4 -9", "fault -1 0", "thing -1 0 29",
        "fact 0 9999", "event -1 0 200000", "copy 0 1", "copies 0 15", "store", "hold -1 0 39", "lift 0 1", "wish 0",
        "span -1 0 999999", "lost", "why 0 1 2 3", "places 0 15", "misplaced 0", "planned -1 999999", "differ 0",
        "bites 0 1", "days 200000", "entry -1", "count -1"};
    /** How many parts a call tells of that has a what, its last number; each of them alone is made wrong. */
    private static final String[] PARTS = {"date 3", "span 5", "entry 5", "count 10"};
    private static final List<String> TELLERS =
        List.of("feed", "rules", "thing", "fact", "event", "copy", "store", "hold", "lift", "wish", "days");
    private static final int ANY = Integer.MIN_VALUE;

    private static final String FACE = """
        public final class KeepForget {
            public static final int NONE = -1;
            static String call = "";
            static String way = "";
            static int number;
            private final Right right = new Right();
            private final java.util.List<Object[]> told = new java.util.ArrayList<>();

            public KeepForget() {
                if (call.equals("KeepForget")) {
                    String[] first = {"days", "thing", "rules", "thing"};
                    run(right, first[number], number == 2 ? new int[] {0, 0} : new int[] {1});
                    if (number == 3) {
                        run(right, "hold", new int[] {0, 1});
                    }
                }
            }

            private int ask(String name, int... a) {
                boolean isBroken = name.equals(call);
                if (isBroken && way.equals("leaves no trace")) {
                    Right other = new Right();
                    for (Object[] t : told) {
                        try {
                            run(other, (String) t[0], (int[]) t[1]);
                        } catch (RuntimeException e) {
                            // It was refused when it was told, too.
                        }
                    }
                    return run(other, name, a);
                }
                told.add(new Object[] {name, a});
                int answer;
                try {
                    answer = run(right, name, a);
                } catch (RuntimeException e) {
                    if (isBroken && way.equals("doesn't throw " + e.getClass().getSimpleName())) {
                        return 0;
                    }
                    if (isBroken && way.equals("throws another than " + e.getClass().getSimpleName())) {
                        throw new IllegalStateException();
                    }
                    throw e;
                }
                boolean isWrong = isBroken && (way.equals("answers wrongly") && (number == ANY || number == answer)
                    || way.equals("tells a part wrongly") && number == a[a.length - 1]);
                return isWrong ? answer ^ 1 : answer;
            }

            private static int run(Right right, String name, int[] a) {
                switch (name) {
        RUNS            default:
                        throw new Error(name);
                }
            }

        METHODS}
        """;

    private record Break(int promise, String call, String way, int number) {
        String told() {
            return "promise " + promise + ", " + call + " " + way + (number == ANY ? "" : " (" + number + ")");
        }
    }

    private BrokenTest() {
    }

    public static void main(String[] args) throws IOException {
        Path dir = Files.createTempDirectory("broken");
        PrintStream out = System.out;
        System.setOut(new PrintStream(OutputStream.nullOutputStream()));
        List<Break> breaks = breaks();
        Collection<String> unbroken;
        List<Boolean> told;
        try {
            compile(dir);
            unbroken = brokenWords(dir, new Break(0, "", "", ANY));
            told = breaks.parallelStream().map(b -> isTold(dir, b)).collect(Collectors.toList());
        } finally {
            System.setOut(out);
            delete(dir);
        }
        Checks.due("words told of an unbroken face: " + unbroken, unbroken.size(), 0);
        for (int i = 0; i < breaks.size(); i++) {
            Checks.due("EdgesTest tells of " + breaks.get(i).told(), told.get(i), true);
        }
        Checks.end();
    }

    private static List<Break> breaks() {
        List<Break> all = new ArrayList<>();
        for (int i = 0; i < 4; i++) {
            all.add(new Break(1, "KeepForget", "is not as new", i));
        }
        for (int i = 0; i < CALLS.length; i++) {
            String[] row = CALLS[i].split(" ");
            breakCall(all, i + 2, method(row[0]), Arrays.copyOfRange(row, 1, row.length));
        }
        return all;
    }

    private static void breakCall(List<Break> all, int promise, Method method, String[] answers) {
        String call = method.getName();
        if (method.getReturnType() != void.class) {
            all.add(new Break(promise, call, "answers wrongly", ANY));
        }
        for (String answer : answers) {
            all.add(new Break(promise, call, "answers wrongly", Integer.parseInt(answer)));
        }
        for (Class<?> thrown : method.getExceptionTypes()) {
            all.add(new Break(promise, call, "doesn't throw " + thrown.getSimpleName(), ANY));
            all.add(new Break(promise, call, "throws another than " + thrown.getSimpleName(), ANY));
        }
        if (TELLERS.contains(call)) {
            all.add(new Break(promise, call, "leaves no trace", ANY));
        }
        for (String row : PARTS) {
            for (int what = 0; row.startsWith(call + " ") && what < Integer.parseInt(row.split(" ")[1]); what++) {
                all.add(new Break(promise, call, "tells a part wrongly", what));
            }
        }
    }

    private static Method method(String name) {
        for (Method m : KeepForget.class.getMethods()) {
            if (m.getDeclaringClass() == KeepForget.class && m.getName().equals(name)) {
                return m;
            }
        }
        throw new NoSuchElementException(name);
    }

    private static boolean isTold(Path dir, Break b) {
        return brokenWords(dir, b).stream().anyMatch(w -> w.startsWith("promise " + b.promise() + ": "));
    }

    /** Classes of its own for each way, for Checks counts in static fields. */
    private static Collection<String> brokenWords(Path dir, Break b) {
        try (URLClassLoader loader = new URLClassLoader(new URL[] {dir.toUri().toURL()}, ClassLoader.getPlatformClassLoader())) {
            Class<?> face = loader.loadClass("KeepForget");
            field(face, "call").set(null, b.call());
            field(face, "way").set(null, b.way());
            field(face, "number").set(null, b.number());
            try {
                loader.loadClass("EdgesTest").getMethod("main", String[].class).invoke(null, (Object) new String[0]);
            } catch (InvocationTargetException e) {
                if (!(e.getCause() instanceof AssertionError)) {
                    throw e;
                }
            }
            Collection<?> words = (Collection<?>) field(loader.loadClass("Checks"), "BROKEN").get(null);
            return words.stream().map(Object::toString).collect(Collectors.toList());
        } catch (IOException | ReflectiveOperationException e) {
            throw new IllegalStateException(b.told(), e);
        }
    }

    private static Field field(Class<?> of, String name) throws ReflectiveOperationException {
        Field field = of.getDeclaredField(name);
        field.setAccessible(true);
        return field;
    }

    private static void compile(Path dir) throws IOException {
        String source = Files.readString(Path.of("src/main/java/KeepForget.java"));
        Files.writeString(dir.resolve("Right.java"),
            source.replace("public final class KeepForget", "final class Right").replace("public KeepForget()", "Right()"));
        Files.writeString(dir.resolve("KeepForget.java"), face());
        int code = ToolProvider.getSystemJavaCompiler().run(null, null, null, "-encoding", "UTF-8", "-d", dir.toString(),
            dir.resolve("Right.java").toString(), dir.resolve("KeepForget.java").toString(),
            "src/test/java/Checks.java", "src/test/java/EdgesTest.java");
        if (code != 0) {
            throw new IllegalStateException("the broken face doesn't compile");
        }
    }

    private static String face() {
        StringBuilder runs = new StringBuilder();
        StringBuilder methods = new StringBuilder();
        for (String row : CALLS) {
            Method m = method(row.split(" ")[0]);
            int many = m.getParameterCount();
            String call = "right." + m.getName() + "(" + list("a[%d]", many) + ")";
            Class<?> type = m.getReturnType();
            runs.append("            case \"").append(m.getName()).append("\":\n                ")
                .append(type == void.class ? call + ";\n                return 0;\n"
                    : "return " + call + (type == boolean.class ? " ? 1 : 0;\n" : ";\n"));
            String asked = "ask(\"" + m.getName() + "\"" + (many == 0 ? "" : ", ") + list("p%d", many) + ")";
            methods.append("    public ").append(type).append(' ').append(m.getName()).append('(').append(list("int p%d", many))
                .append(") {\n        ").append(type == void.class ? "" : "return ").append(asked)
                .append(type == boolean.class ? " != 0" : "").append(";\n    }\n\n");
        }
        return FACE.replace("RUNS", runs).replace("METHODS", methods).replace("ANY", "Integer.MIN_VALUE");
    }

    private static String list(String form, int many) {
        return IntStream.range(0, many).mapToObj(i -> String.format(form, i)).collect(Collectors.joining(", "));
    }

    private static void delete(Path dir) throws IOException {
        try (Stream<Path> files = Files.walk(dir)) {
            for (Path file : files.sorted(Comparator.reverseOrder()).toList()) {
                Files.delete(file);
            }
        }
    }
}
