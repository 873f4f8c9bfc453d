import java.io.IOException;
import java.lang.reflect.InvocationTargetException;
import java.lang.reflect.Method;
import java.lang.reflect.Modifier;
import java.nio.file.DirectoryStream;
import java.nio.file.Files;
import java.nio.file.Path;
import java.util.Map;
import java.util.Set;
import java.util.TreeMap;
import java.util.TreeSet;
import java.util.regex.Matcher;
import java.util.regex.Pattern;

/** What README.md shows of calls and answers, made and compared; and whether it shows every call and names every test. */
public final class ReadmeTest {
    private static final Pattern BLOCK = Pattern.compile("(?ms)^```java\\n(.*?)^```$");
    private static final Pattern CALL = Pattern.compile(
            "(?:(int|long|boolean) \\w+ = )?bench\\.(\\w+)\\(([^()]*)\\); *// (true|false|-?\\d+|NoSuchElementException)(?:[: ].*)?");
    private static final String MADE = "ChanceBench bench = new ChanceBench();";
    private static final int MOST_CALLS = 512;

    private static final Map<String, Method> FACE = new TreeMap<>();
    private static final Set<String> SHOWN = new TreeSet<>();

    private ReadmeTest() {
    }

    public static void main(String[] args) throws IOException {
        for (Method m : ChanceBench.class.getDeclaredMethods()) {
            if (Modifier.isPublic(m.getModifiers())) {
                FACE.put(m.getName(), m);
            }
        }
        String page = Files.readString(Path.of("README.md"));
        Matcher block = BLOCK.matcher(page);
        int blocks = 0;
        while (block.find()) {
            blocks++;
            example(blocks, block.group(1).split("\n"));
        }
        Due.is("README.md has examples", blocks > 0, true);
        Due.is("calls that README.md shows", SHOWN.toString(), FACE.keySet().toString());
        namesEveryTest(page);
        Due.end("ReadmeTest");
    }

    /** An example stands by itself: it begins with a bench of its own. */
    private static void example(int number, String[] lines) {
        Due.is("example " + number + ", its first line", lines[0], MADE);
        Due.is("example " + number + " has 512 calls at most", lines.length - 1 <= MOST_CALLS, true);
        ChanceBench bench = new ChanceBench();
        for (int k = 1; k < lines.length; k++) {
            Matcher call = CALL.matcher(lines[k]);
            boolean read = call.matches();
            Due.is("example " + number + " has a call and its answer in: " + lines[k], read, true);
            if (read) {
                make(bench, number, call);
            }
        }
    }

    private static void make(ChanceBench bench, int number, Matcher call) {
        String told = "example " + number + ": " + call.group(2) + "(" + call.group(3) + ")";
        Method method = FACE.get(call.group(2));
        String[] texts = call.group(3).isEmpty() ? new String[0] : call.group(3).split(", ");
        if (method == null || method.getParameterCount() != texts.length) {
            Due.is(told, "no call of the face", call.group(4));
            return;
        }
        SHOWN.add(method.getName());
        if (call.group(1) != null) {
            Due.is(told + ", kind of its answer", method.getReturnType().getName(), call.group(1));
        }
        Object[] given = new Object[texts.length];
        for (int k = 0; k < texts.length; k++) {
            given[k] = method.getParameterTypes()[k] == boolean.class ? (Object) texts[k].equals("true") : (Object) Long.decode(texts[k]).intValue();
        }
        Due.is(told, answer(bench, method, given), call.group(4));
    }

    private static String answer(ChanceBench bench, Method method, Object[] given) {
        try {
            return String.valueOf(method.invoke(bench, given));
        } catch (InvocationTargetException e) {
            return e.getCause().getClass().getSimpleName();
        } catch (IllegalAccessException e) {
            return "it may not be called";
        }
    }

    private static void namesEveryTest(String page) throws IOException {
        Due.is("README.md names .ci/run", page.contains(".ci/run"), true);
        try (DirectoryStream<Path> tests = Files.newDirectoryStream(Path.of("src/test/java"), "*Test.java")) {
            for (Path test : tests) {
                String name = test.getFileName().toString().replace(".java", "");
                Due.is("README.md names " + name, page.contains("| `" + name + "` |"), true);
            }
        }
    }
}
