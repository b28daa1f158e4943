import java.io.IOException;
import java.lang.reflect.Field;
import java.lang.reflect.Method;
import java.lang.reflect.Modifier;
import java.nio.file.Files;
import java.nio.file.Path;
import java.util.ArrayList;
import java.util.Arrays;
import java.util.List;
import java.util.Set;
import java.util.TreeSet;

/** The rules of LANGUAGE.md that the source or the compiled class shows; run in the project's folder. */
public final class LanguageTest {
    private static final List<String> FORBIDDEN = List.of("\\btry\\b", "\\bcatch\\b", "\\bfinally\\b", "->", "::",
        "\\bsynchronized\\b", "\\bassert\\b", "\\bstatic\\s*\\{", "^package\\b", "\\bdouble\\b", "\\bfloat\\b",
        "\\bObject\\b", "\\bSystem\\b", "\\bThread\\b", "\\bvar\\b", "\\bnative\\b", "Exact\\b", "\\bhashCode\\b", "\" \\+|\\+ \"");

    private LanguageTest() {
    }

    public static void main(String[] args) throws IOException {
        face();
        names();
        sizes();
        source();
        Checks.end();
    }

    private static void right(String what, boolean is) {
        Checks.due(what, is, true);
    }

    /** Which members they are, DocTest looks at. */
    private static void face() {
        Class<?> c = KeepForget.class;
        for (Method m : c.getDeclaredMethods()) {
            right("public or private: " + m, Modifier.isPublic(m.getModifiers()) || Modifier.isPrivate(m.getModifiers()));
        }
        for (Field f : c.getDeclaredFields()) {
            right("the field " + f, Modifier.isPublic(f.getModifiers()) || Modifier.isPrivate(f.getModifiers()));
        }
        for (Class<?> n : c.getDeclaredClasses()) {
            int m = n.getModifiers();
            right("the class " + n, Modifier.isStatic(m) && !Modifier.isPublic(m) && !Modifier.isProtected(m));
        }
    }

    private static List<Class<?>> classes() {
        List<Class<?>> all = new ArrayList<>(Arrays.asList(KeepForget.class.getDeclaredClasses()));
        all.add(KeepForget.class);
        return all;
    }

    private static void names() {
        Set<String> face = new TreeSet<>();
        for (Method m : KeepForget.class.getDeclaredMethods()) {
            if (Modifier.isPublic(m.getModifiers())) {
                face.add(m.getName());
            }
        }
        for (Class<?> c : classes()) {
            for (Method m : c.getDeclaredMethods()) {
                boolean isOfFace = c == KeepForget.class && Modifier.isPublic(m.getModifiers());
                right("the name of " + m, isOfFace || !face.contains(m.getName()));
                right("the parameters of " + m, m.getParameterCount() <= 7);
            }
        }
    }

    private static void sizes() {
        right("twelve classes at most", classes().size() <= 12);
        for (Class<?> c : classes()) {
            int fields = 0;
            for (Field f : c.getDeclaredFields()) {
                if (Modifier.isStatic(f.getModifiers())) {
                    right("a static field is final: " + f, Modifier.isFinal(f.getModifiers()));
                } else {
                    fields++;
                }
            }
            right("twenty fields at most in " + c, fields <= 20);
        }
    }

    private static void source() throws IOException {
        List<String> lines = Files.readAllLines(Path.of("src/main/java/KeepForget.java"));
        int methodStart = -1;
        for (int i = 0; i < lines.size(); i++) {
            String line = lines.get(i);
            for (char sign : line.toCharArray()) {
                right("a plain sign in line " + (i + 1), sign >= ' ' && sign < 127);
            }
            if (line.startsWith("import")) {
                right(line, line.equals("import java.util.NoSuchElementException;"));
            }
            String code = line.replaceAll("//.*|^\\s*/?\\*.*", "");
            for (String pattern : FORBIDDEN) {
                right("line " + (i + 1) + " has " + pattern, !java.util.regex.Pattern.compile(pattern).matcher(code).find());
            }
            if (code.matches(" {4}( {4})?[A-Za-z].*\\(.*\\{")) {
                methodStart = i;
            }
            if (methodStart >= 0 && code.matches(" {4}( {4})?\\}")) {
                right("a short method at line " + (methodStart + 1), i - methodStart <= 60);
            }
        }
        right("methods were seen", methodStart > 0);
    }
}
