import java.io.IOException;
import java.lang.reflect.Field;
import java.lang.reflect.Method;
import java.lang.reflect.Modifier;
import java.nio.file.Files;
import java.nio.file.Path;
import java.util.ArrayList;
import java.util.List;
import java.util.Set;
import java.util.TreeSet;
import java.util.regex.Matcher;
import java.util.regex.Pattern;

/** The face of the document, and those rules of LANGUAGE.md that can be seen without reading closely. */
public final class LanguageTest {
    private static final String[] FACE = {
        "int feed(int, int, int, int, int)", "boolean end(int)", "boolean sheet(int, int, int)", "boolean wheel(int, int, int)",
        "boolean urn(int, int, int, int, boolean)", "boolean coin(int, int, int)", "boolean sum(int, int, int)",
        "boolean times(int, int, int, int)", "boolean of(int, int, int, int)", "boolean mix(int, int, int, int, int)",
        "boolean given(int, int, int, int)", "boolean undo()", "boolean redo()", "int values(int)", "int value(int, int) throws",
        "long chance(int, int, int) throws", "long below(int, int, int) throws", "long mean(int, int) throws",
        "long variance(int, int) throws", "long apart(int, int, int) throws", "long far(int, int, int) throws", "int above(int, int)",
        "int spread(int, int)", "int bound()", "int joint(int, int, int)", "long pair(int, int, int) throws",
        "int open(int, int) throws", "boolean leaf(int, int, int) throws", "long lots(int, int, int) throws", "int draw(int) throws",
        "int taken()", "int pairs(int, int, int)", "int face(int, int, int) throws", "long beats(int, int, int) throws",
        "long ring(int)", "int count(int)"
    };

    private LanguageTest() {
    }

    public static void main(String[] args) throws IOException {
        face();
        Path document = Path.of("../shared/DOC.md");
        if (Files.exists(document)) {
            faceOfDocument(Files.readString(document));
        }
        inside();
        source(Files.readString(Path.of("src/main/java/ChanceBench.java")));
        Due.end("LanguageTest");
    }

    private static String told(Method m) {
        List<String> kinds = new ArrayList<>();
        for (Class<?> kind : m.getParameterTypes()) {
            kinds.add(kind.getName());
        }
        return m.getReturnType().getName() + " " + m.getName() + "(" + String.join(", ", kinds) + ")"
                + (m.getExceptionTypes().length == 1 ? " throws" : "");
    }

    private static void face() {
        Set<String> methods = new TreeSet<>();
        for (Method m : ChanceBench.class.getDeclaredMethods()) {
            if (!Modifier.isPrivate(m.getModifiers())) {
                methods.add(told(m));
            }
        }
        Due.is("the face", methods.toString(), new TreeSet<>(List.of(FACE)).toString());
        List<String> fields = new ArrayList<>();
        for (Field f : ChanceBench.class.getDeclaredFields()) {
            if (!Modifier.isPrivate(f.getModifiers())) {
                fields.add(Modifier.toString(f.getModifiers()) + " " + f.getType() + " " + f.getName());
            }
        }
        Due.is("the constants", fields.toString(), "[public static final int NONE]");
        Due.is("constructors", ChanceBench.class.getDeclaredConstructors().length, 1);
        Due.is("the class is final", Modifier.isFinal(ChanceBench.class.getModifiers()), true);
    }

    /** The heads of methods that the document writes out, in the form of FACE. */
    private static void faceOfDocument(String document) {
        Set<String> methods = new TreeSet<>();
        Matcher m = Pattern.compile("(?m)^    public (int|long|boolean) (\\w+)\\(([^)]*)\\)( throws)?[^;]*;$").matcher(document);
        while (m.find()) {
            String kinds = m.group(3).replaceAll("(int|boolean) \\w+", "$1");
            methods.add(m.group(1) + " " + m.group(2) + "(" + kinds + ")" + (m.group(4) == null ? "" : " throws"));
        }
        Due.is("the face in the document", methods.toString(), new TreeSet<>(List.of(FACE)).toString());
        Due.is("its constant", document.contains("    public static final int NONE = " + ChanceBench.NONE + ";\n"), true);
    }

    private static void inside() {
        Set<String> names = new TreeSet<>();
        for (String f : FACE) {
            names.add(f.substring(f.indexOf(' ') + 1, f.indexOf('(')));
        }
        List<Class<?>> all = new ArrayList<>(List.of(ChanceBench.class.getDeclaredClasses()));
        Due.is("some twelve classes at most", all.size() < 12, true);
        all.add(ChanceBench.class);
        for (Class<?> c : all) {
            Due.is(c + " is static", c == ChanceBench.class || Modifier.isStatic(c.getModifiers()), true);
            for (Method m : c.getDeclaredMethods()) {
                Due.is(m + " has seven parameters at most", m.getParameterCount() <= 7, true);
                boolean hidden = c != ChanceBench.class || Modifier.isPrivate(m.getModifiers());
                Due.is(m + " bears a name of the face", hidden && names.contains(m.getName()), false);
            }
            int fields = 0;
            for (Field f : c.getDeclaredFields()) {
                if (Modifier.isStatic(f.getModifiers())) {
                    Due.is(f + " is a constant", Modifier.isFinal(f.getModifiers()) && f.getType().isPrimitive(), true);
                } else {
                    fields++;
                }
            }
            Due.is(c + " has some twenty fields at most", fields <= 20, true);
        }
    }

    /** Rule 4: no class but the file's own and those of the library that it may use, and of these no other call. */
    private static void names(String code) {
        Set<String> used = new TreeSet<>();
        Matcher m = Pattern.compile("\\b[A-Z]\\w*[a-z]\\w*\\b").matcher(code);
        while (m.find()) {
            used.add(m.group());
        }
        used.remove("ChanceBench");
        for (Class<?> c : ChanceBench.class.getDeclaredClasses()) {
            used.remove(c.getSimpleName());
        }
        Due.is("classes of the library", used.toString(), "[Integer, Math, NoSuchElementException]");
        used.clear();
        m = Pattern.compile("\\b(?:Integer|Math)\\.\\w+").matcher(code);
        while (m.find()) {
            used.add(m.group());
        }
        Due.is("calls of the library", used.toString(), "[Integer.signum, Math.abs, Math.max, Math.min]");
        m = Pattern.compile("\\.clone\\b|\\.getClass\\b|\\.equals\\b|\\.hashCode\\b|\\.toString\\b|\"").matcher(code);
        Due.is("calls of what every object has, or a text", m.find(), false);
    }

    private static void source(String text) {
        String code = text.replaceAll("(?s)/\\*.*?\\*/", "").replaceAll("//[^\n]*", "");
        List<String> imports = new ArrayList<>();
        Matcher m = Pattern.compile("import[^;]*;").matcher(code);
        while (m.find()) {
            imports.add(m.group());
        }
        Due.is("imports", imports.toString(), "[import java.util.NoSuchElementException;]");
        String[] barred = {
            "->", "::", "\\bcatch\\b", "\\btry\\b", "\\bfinally\\b", "\\bsynchronized\\b", "\\bassert\\b", "\\bpackage\\b", "\\bprotected\\b",
            "\\bdouble\\b", "\\bfloat\\b", "Exact\\b", "\\bSystem\\b", "\\bRandom\\b", "\\bThread\\b", "static\\s*\\{", "[^\\x00-\\x7F]"
        };
        for (String b : barred) {
            Due.is("the source has " + b, Pattern.compile(b).matcher(code).find(), false);
        }
        names(code);
        m = Pattern.compile("throw [^;]*;").matcher(code);
        while (m.find()) {
            Due.is("throw", m.group(), "throw new NoSuchElementException();");
        }
        int start = -1;
        String[] lines = code.split("\n");
        for (int k = 0; k < lines.length; k++) {
            if (lines[k].matches(" {4}( {4})?[\\w\\[\\]. ]+\\(.*") && lines[k].endsWith("{")) {
                start = k;
            }
            if (start >= 0 && lines[k].matches(" {4}( {4})?\\}")) {
                Due.is("a method of over sixty lines at line " + start, k - start > 60, false);
                start = -1;
            }
        }
    }
}
