import java.io.IOException;
import java.lang.reflect.Constructor;
import java.lang.reflect.Field;
import java.lang.reflect.Method;
import java.lang.reflect.Modifier;
import java.nio.file.Files;
import java.nio.file.Path;
import java.util.ArrayList;
import java.util.Arrays;
import java.util.List;
import java.util.Map;
import java.util.NoSuchElementException;
import java.util.Set;
import java.util.TreeMap;
import java.util.TreeSet;

/** The rules of LANGUAGE.md that the source or the compiled class shows; run in the project's folder. */
public final class LanguageTest {
    private static final List<String> FACE = List.of(
        "int day(int,int,int)", "int date(int,int)", "int later(int,int)", "int feed(int,int,int,int,int)",
        "int rules(int,int)", "int fault()", "int thing(int)", "int fact(int,int,int)", "int event(int,int,int)",
        "boolean copy(int,int,int)", "int copies(int,int)", "void store(int,int,int)", "int hold(int,int)",
        "boolean lift(int)", "int wish(int)", "int span(int,int,int,int)", "int lost(int,int,int,int)",
        "int why(int,int)", "int places(int,int)", "int misplaced()", "int planned(int,int,int)", "int differ(int,int)",
        "boolean bites(int,int)", "int days(int)", "int entry(int,int)", "int count(int)");
    /** The exceptions of the document's face; each other call of it has none. */
    private static final Map<String, List<Class<?>>> THROWN = thrown();
    private static final List<String> FORBIDDEN = List.of("\\btry\\b", "\\bcatch\\b", "\\bfinally\\b", "->", "::",
        "\\bsynchronized\\b", "\\bassert\\b", "\\bstatic\\s*\\{", "^package\\b", "\\bdouble\\b", "\\bfloat\\b",
        "\\bObject\\b", "\\bSystem\\b", "\\bThread\\b", "\\bvar\\b", "\\bnative\\b", "Exact\\b", "\\bhashCode\\b", "\" \\+|\\+ \"");

    private LanguageTest() {
    }

    public static void main(String[] args) throws IOException {
        face();
        names();
        sizes();
        source();
        Checks.end();
    }

    private static void right(String what, boolean is) {
        Checks.due(what, is, true);
    }

    private static String told(Method m) {
        StringBuilder text = new StringBuilder(m.getReturnType() + " " + m.getName() + "(");
        for (Class<?> type : m.getParameterTypes()) {
            text.append(text.charAt(text.length() - 1) == '(' ? "" : ",").append(type);
        }
        return text.append(")").toString();
    }

    private static Map<String, List<Class<?>>> thrown() {
        Map<String, List<Class<?>>> all = new TreeMap<>();
        for (String name : "day date later rules days".split(" ")) {
            all.put(name, List.of(IllegalArgumentException.class));
        }
        for (String name : "fact event store".split(" ")) {
            all.put(name, List.of(NoSuchElementException.class, IllegalArgumentException.class));
        }
        for (String name : "copy copies hold lift wish span lost why places planned differ bites entry count".split(" ")) {
            all.put(name, List.of(NoSuchElementException.class));
        }
        for (String name : "feed fault thing misplaced".split(" ")) {
            all.put(name, List.of());
        }
        return all;
    }

    private static void face() {
        Class<?> c = KeepForget.class;
        right("public and final", Modifier.isPublic(c.getModifiers()) && Modifier.isFinal(c.getModifiers()));
        Set<String> seen = new TreeSet<>();
        for (Method m : c.getDeclaredMethods()) {
            if (!Modifier.isPrivate(m.getModifiers())) {
                seen.add(told(m));
                right("a public method of the object: " + m, m.getModifiers() == Modifier.PUBLIC);
                right("the exceptions of " + m, List.of(m.getExceptionTypes()).equals(THROWN.get(m.getName())));
            }
        }
        right("the face: " + seen, seen.equals(new TreeSet<>(FACE)));
        for (Constructor<?> n : c.getDeclaredConstructors()) {
            right("the constructor " + n, Modifier.isPublic(n.getModifiers()) && n.getParameterCount() == 0);
        }
        for (Field f : c.getDeclaredFields()) {
            boolean isConstant = f.getName().equals("NONE");
            right("the field " + f, isConstant == !Modifier.isPrivate(f.getModifiers()));
        }
        for (Class<?> n : c.getDeclaredClasses()) {
            int m = n.getModifiers();
            right("the class " + n, Modifier.isStatic(m) && !Modifier.isPublic(m) && !Modifier.isProtected(m));
        }
    }

    private static List<Class<?>> classes() {
        List<Class<?>> all = new ArrayList<>(Arrays.asList(KeepForget.class.getDeclaredClasses()));
        all.add(KeepForget.class);
        return all;
    }

    private static void names() {
        for (Class<?> c : classes()) {
            for (Method m : c.getDeclaredMethods()) {
                boolean isOfFace = c == KeepForget.class && Modifier.isPublic(m.getModifiers());
                boolean isNamedSo = FACE.stream().anyMatch(f -> f.contains(" " + m.getName() + "("));
                right("the name of " + m, isOfFace == isNamedSo);
                right("the parameters of " + m, m.getParameterCount() <= 7);
            }
        }
    }

    private static void sizes() {
        right("twelve classes at most", classes().size() <= 12);
        for (Class<?> c : classes()) {
            int fields = 0;
            for (Field f : c.getDeclaredFields()) {
                if (Modifier.isStatic(f.getModifiers())) {
                    right("a static field is final: " + f, Modifier.isFinal(f.getModifiers()));
                } else {
                    fields++;
                }
            }
            right("twenty fields at most in " + c, fields <= 20);
        }
    }

    private static void source() throws IOException {
        List<String> lines = Files.readAllLines(Path.of("src/main/java/KeepForget.java"));
        int methodStart = -1;
        for (int i = 0; i < lines.size(); i++) {
            String line = lines.get(i);
            for (char sign : line.toCharArray()) {
                right("a plain sign in line " + (i + 1), sign >= ' ' && sign < 127);
            }
            if (line.startsWith("import")) {
                right(line, line.equals("import java.util.NoSuchElementException;"));
            }
            String code = line.replaceAll("//.*|^\\s*/?\\*.*", "");
            for (String pattern : FORBIDDEN) {
                right("line " + (i + 1) + " has " + pattern, !java.util.regex.Pattern.compile(pattern).matcher(code).find());
            }
            if (code.matches(" {4}( {4})?[A-Za-z].*\\(.*\\{")) {
                methodStart = i;
            }
            if (methodStart >= 0 && code.matches(" {4}( {4})?\\}")) {
                right("a short method at line " + (methodStart + 1), i - methodStart <= 60);
            }
        }
        right("methods were seen", methodStart > 0);
    }
}
