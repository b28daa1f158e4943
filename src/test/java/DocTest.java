import java.io.IOException;
import java.lang.reflect.Field;
import java.lang.reflect.Method;
import java.lang.reflect.Modifier;
import java.nio.file.Files;
import java.nio.file.Path;
import java.util.List;
import java.util.Set;
import java.util.TreeSet;
import java.util.regex.Matcher;
import java.util.regex.Pattern;
import java.util.stream.Collectors;
import java.util.stream.Stream;

/** The class has the document's face, and what the tests quote stands in the document. Run in the project's folder. */
public final class DocTest {
    private static final int PROMISES = 27;
    private static final Pattern QUOTE =
        Pattern.compile("\\b(?:sentence|promise)\\((?:(\\d+), )?((?:\"(?:[^\"\\\\]|\\\\.)*\"\\s*\\+?\\s*)+),");

    private DocTest() {
    }

    public static void main(String[] args) throws IOException, ReflectiveOperationException {
        String doc = Files.readString(Path.of("../shared/DOC.md"));
        face(part(doc, "```java\n", "```"));
        promises(doc);
        Set<Integer> tested = new TreeSet<>();
        for (String test : List.of("TermsTest", "TextsTest", "EdgesTest")) {
            quotes(doc, test, tested);
        }
        Checks.due("promises that EdgesTest quotes: " + tested, tested.size(), PROMISES);
        Checks.end();
    }

    private static String part(String text, String begin, String end) {
        int from = text.indexOf(begin);
        int to = from < 0 ? -1 : text.indexOf(end, from + begin.length());
        Checks.due("the document has " + begin.strip(), to >= 0, true);
        return to < 0 ? "" : text.substring(from + begin.length(), to);
    }

    /** All that others can see of the class, as the document writes it; parameters without their names. */
    private static void face(String block) throws ReflectiveOperationException {
        Set<String> want = block.lines().map(String::strip).filter(line -> line.matches("public (?!final).*"))
            .map(line -> line.replaceAll("\\bint \\w+(?=[,)])", "int")).collect(Collectors.toCollection(TreeSet::new));
        Class<?> c = KeepForget.class;
        Set<String> seen = new TreeSet<>();
        Stream.of(c.getDeclaredConstructors()).forEach(n -> seen.add(Modifier.toString(n.getModifiers()) + " " + n.getName()
            + "(" + types(n.getParameterTypes()) + ");"));
        Stream.of(c.getDeclaredMethods()).filter(m -> !Modifier.isPrivate(m.getModifiers())).forEach(m -> seen.add(told(m)));
        for (Field f : c.getDeclaredFields()) {
            if (!Modifier.isPrivate(f.getModifiers())) {
                seen.add(Modifier.toString(f.getModifiers()) + " " + f.getType() + " " + f.getName() + " = " + f.get(null) + ";");
            }
        }
        Checks.due("the face is " + seen + ", the document's is " + want, seen.equals(want), true);
        Checks.due("the document's face", want.size(), 1 + PROMISES);
        Checks.due("the class", Modifier.toString(c.getModifiers()).equals("public final"), true);
    }

    private static String told(Method m) {
        String thrown = types(m.getExceptionTypes());
        return Modifier.toString(m.getModifiers()) + " " + m.getReturnType() + " " + m.getName() + "(" + types(m.getParameterTypes())
            + ")" + (thrown.isEmpty() ? "" : " throws " + thrown) + ";";
    }

    private static String types(Class<?>[] all) {
        return Stream.of(all).map(Class::getSimpleName).collect(Collectors.joining(", "));
    }

    /** Each promise is of one call of the face, and the face has all of them. */
    private static void promises(String doc) {
        String face = part(doc, "```java\n", "```");
        for (int n = 1; n <= PROMISES; n++) {
            String promise = promise(doc, n);
            String call = part(promise, "`", "`");
            Checks.due("promise " + n + "'s call is of the face: " + call, face.contains("public " + call + ";"), true);
        }
        Checks.due("a promise more", doc.contains("## Promise " + (PROMISES + 1)), false);
    }

    private static String promise(String doc, int n) {
        return part(doc, "## Promise " + n + ":", "\n## ");
    }

    private static void quotes(String doc, String test, Set<Integer> tested) throws IOException {
        String source = Files.readString(Path.of("src/test/java/" + test + ".java"));
        Matcher quote = QUOTE.matcher(source);
        int found = 0;
        while (quote.find()) {
            String words = quote.group(2).replaceAll("\"\\s*\\+\\s*\"", "").strip().replaceAll("^\"|\"$", "").replace("\\\"", "\"");
            String number = quote.group(1);
            String where = number == null ? doc : promise(doc, Integer.parseInt(number));
            Checks.due("the document has '" + words + "'" + (number == null ? "" : " in promise " + number), where.contains(words), true);
            if (number != null) {
                tested.add(Integer.parseInt(number));
            }
            found++;
        }
        long told = source.lines().filter(line -> line.matches("\\s+(sentence|promise)\\(\"?.*") && !line.contains("+ words")).count();
        Checks.due("quotes in " + test, found, told);
    }
}
