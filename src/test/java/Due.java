import java.util.NoSuchElementException;
import java.util.function.LongSupplier;

/** What the tests of this project share: checks that print what is not as due, and short ways to common states. */
final class Due {
    static final int LOW = Integer.MIN_VALUE;
    static final int HIGH = Integer.MAX_VALUE;

    private static String sentence = "";
    private static int wrong = 0;
    private static int checked = 0;

    private Due() {
    }

    /** What is not as due from here on is told with this sentence ahead of it. */
    static void under(String newSentence) {
        sentence = newSentence;
    }

    static void is(String call, long got, long want) {
        is(call, Long.toString(got), Long.toString(want));
    }

    static void is(String call, boolean got, boolean want) {
        is(call, Boolean.toString(got), Boolean.toString(want));
    }

    static void is(String call, String got, String want) {
        checked++;
        if (!got.equals(want)) {
            wrong++;
            if (wrong <= 50) {
                System.out.println(sentence + call + " answered " + got + ", due is " + want);
            }
        }
    }

    /** What a call answers, as a text: its number, or the name of what it throws. */
    static String told(LongSupplier call) {
        try {
            return Long.toString(call.getAsLong());
        } catch (RuntimeException e) {
            return "throws." + e.getClass().getSimpleName();
        }
    }

    static void fractionIs(String call, long upper, long lower, String want) {
        is(call, upper + "/" + lower, want);
    }

    static void thrown(String call, LongSupplier asked) {
        is(call, told(asked), "throws." + NoSuchElementException.class.getSimpleName());
    }

    /** The tape is made to have just these bytes. */
    static void tape(ChanceBench x, int... bytes) {
        x.end(0);
        for (int k = 0; k < bytes.length; k += 20) {
            x.feed(word(bytes, k), word(bytes, k + 4), word(bytes, k + 8), word(bytes, k + 12), word(bytes, k + 16));
        }
        x.end(bytes.length);
    }

    private static int word(int[] bytes, int from) {
        int word = 0;
        for (int k = from; k < from + 4; k++) {
            word = word << 8 | (k < bytes.length ? bytes[k] & 255 : 0);
        }
        return word;
    }

    /** A law as a text: each value with its chance, as 1:1/2 2:1/2. */
    static String law(ChanceBench x, int a) {
        StringBuilder text = new StringBuilder();
        for (int k = 0; k < x.values(a); k++) {
            int v = x.value(a, k);
            text.append(k == 0 ? "" : " ").append(v).append(':').append(x.chance(a, v, 0)).append('/').append(x.chance(a, v, 1));
        }
        return text.toString();
    }

    static void lawIs(String label, ChanceBench x, int a, String want) {
        is(label + ", law of " + a, law(x, a), want);
    }

    /** The text of the law that has these weights by from, from + step, .. (0: no such value). */
    static String weights(int from, int step, int... weights) {
        long whole = java.util.stream.IntStream.of(weights).asLongStream().sum();
        StringBuilder text = new StringBuilder();
        for (int k = 0; k < weights.length; k++) {
            if (weights[k] > 0) {
                NaiveBench.Frac chance = NaiveBench.Frac.of(weights[k], whole);
                text.append(text.length() == 0 ? "" : " ").append(from + k * step).append(':').append(chance.upper).append('/').append(chance.lower);
            }
        }
        return text.toString();
    }

    /** Slot s gets a law by a sheet of these weights. */
    static void put(ChanceBench x, int s, int from, int step, int... weights) {
        tape(x, weights);
        is("sheet(" + s + ", " + from + ", " + step + ")", x.sheet(s, from, step), true);
    }

    /** A pair of dice as a text: 0 1 | 2 3. */
    static String dice(ChanceBench x, int i, int n, int m) {
        StringBuilder text = new StringBuilder();
        for (int k = 0; k < n; k++) {
            text.append(x.face(i, 0, k)).append(' ');
        }
        text.append('|');
        for (int k = 0; k < m; k++) {
            text.append(' ').append(x.face(i, 1, k));
        }
        return text.toString();
    }

    static void end(String name) {
        System.out.println(wrong == 0 ? name + ": all " + checked + " answers are as due" : name + ": " + wrong + " answers are not as due");
        if (wrong != 0) {
            System.exit(1);
        }
    }
}
