import java.io.IOException;
import java.nio.file.Files;
import java.nio.file.Path;
import java.util.BitSet;
import java.util.Map;
import java.util.TreeMap;
import java.util.regex.Matcher;
import java.util.regex.Pattern;

/**
 * The document, so that a test can name the sentence which it is a test of, and so that no
 * words of a promise or of the terms are left without one.
 */
final class Document {
    static final int TERMS = 0;
    static final int WHAT_IT_IS = -1;

    private static final Path FILE = Path.of("../shared/DOC.md");
    private static final Map<Integer, String> PARTS = parts();
    private static final Map<Integer, BitSet> TOLD = new TreeMap<>();

    private Document() {
    }

    /** The checks that follow are those of these words of a promise (or of the terms). */
    static void says(int promise, String words) {
        Due.under((promise > 0 ? "promise " + promise : promise == TERMS ? "Terms" : "What it is") + ", \"" + words + "\": ");
        if (!PARTS.isEmpty()) {
            Due.is("whether the document has these words there", mark(promise, words), true);
        }
    }

    /** Words that name no case at all. */
    static void onlyLeadsIn(int promise, String words) {
        says(promise, words);
    }

    /** Whether the words stand there; the first place of them that was not marked is marked. */
    private static boolean mark(int promise, String words) {
        String part = PARTS.getOrDefault(promise, "");
        BitSet told = TOLD.computeIfAbsent(promise, p -> new BitSet());
        int at = part.indexOf(words);
        while (at >= 0 && told.get(at)) {
            at = part.indexOf(words, at + 1);
        }
        if (at >= 0) {
            told.set(at, at + words.length());
        }
        return at >= 0;
    }

    /** Fails for all words of the promises and the terms that no test has named. */
    static void allIsTold() {
        Due.under("the document: ");
        if (PARTS.isEmpty()) {
            System.out.println(FILE + " is not there: the sentences are not looked up");
            return;
        }
        Due.is("parts", PARTS.keySet().toString(), java.util.stream.IntStream.rangeClosed(WHAT_IT_IS, 37).boxed().toList().toString());
        for (int promise = TERMS; promise <= 37; promise++) {
            String part = PARTS.getOrDefault(promise, "");
            BitSet told = TOLD.getOrDefault(promise, new BitSet());
            StringBuilder left = new StringBuilder();
            for (int k = 0; k < part.length(); k++) {
                left.append(told.get(k) ? ' ' : part.charAt(k));
            }
            Due.is("words of part " + promise + " without a test", left.toString().trim(), "");
        }
    }

    private static Map<Integer, String> parts() {
        Map<Integer, String> parts = new TreeMap<>();
        String text;
        try {
            text = Files.readString(FILE);
        } catch (IOException e) {
            return parts;
        }
        Matcher m = Pattern.compile("(?ms)^## (What it is|Terms|Promise (\\d+): \\w[^\\n]*)\\n(.*?)(?=^## |\\z)").matcher(text);
        while (m.find()) {
            int number = m.group(2) != null ? Integer.parseInt(m.group(2)) : m.group(1).equals("Terms") ? TERMS : WHAT_IT_IS;
            parts.put(number, plain(m.group(3)));
        }
        return parts;
    }

    /** Without the method's head, the fences, the numbers of the parts and the ends of lines. */
    private static String plain(String body) {
        return body.trim().replaceFirst("^`[^`]*`: ", "").replaceAll("```\\w*", " ").replaceAll("==== \\d\\.", " ").replaceAll("\\s+", " ").trim();
    }
}
