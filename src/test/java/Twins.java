import java.util.function.Consumer;
import java.util.function.Predicate;
import java.util.function.ToLongFunction;

/**
 * Two benches of one past. A call is made on one of them; then all that calls can tell of both is
 * asked, so that it is seen whether the call has changed anything. Each bench stays well below
 * the 512 calls for which the document answers.
 */
final class Twins {
    /** A slot of a rich bench that has no law. */
    static final int BARE = 9;

    private static final int[] USED = {0, 1, 2, 3, 15};

    private Twins() {
    }

    /** Has laws, acts done and undone, a tape, a joint, pairs, a bound and lots taken. */
    static ChanceBench rich() {
        ChanceBench x = new ChanceBench();
        x.wheel(0, 6, 1);
        x.wheel(1, 2, 1);
        x.coin(2, 1, 3);
        Due.tape(x, 1, 0, 2, 3);
        x.sheet(15, -4, 3);
        x.above(1, 0);
        x.joint(0, 1, 0);
        x.pairs(0, 2, 3);
        Due.tape(x, 0xF0);
        x.draw(0);
        x.wheel(3, 1, 9);
        x.wheel(2, 3, 0);
        x.undo();
        x.undo();
        Due.tape(x, 7, 0, 200, 255, 1);
        return x;
    }

    /** The call answers false, and all is as it was. */
    static void isFalse(String call, Predicate<ChanceBench> asked) {
        compare(call, x -> asked.test(x) ? 1 : 0, "0", x -> { });
    }

    /** The call answers NONE, and all is as it was. */
    static void isNone(String call, ToLongFunction<ChanceBench> asked) {
        compare(call, asked, "-1", x -> { });
    }

    /** The call throws NoSuchElementException, and all is as it was. */
    static void isThrown(String call, ToLongFunction<ChanceBench> asked) {
        compare(call, asked, "throws.NoSuchElementException", x -> { });
    }

    /** The call answers false; the tape is empty, and all else is as it was. */
    static void isFalseAndEmpties(String call, Predicate<ChanceBench> asked) {
        compare(call, x -> asked.test(x) ? 1 : 0, "0", x -> x.end(0));
    }

    /** The call answers NONE; the tape is empty, and all else is as it was. */
    static void isNoneAndEmpties(String call, ToLongFunction<ChanceBench> asked) {
        compare(call, asked, "-1", x -> x.end(0));
    }

    private static void compare(String call, ToLongFunction<ChanceBench> asked, String want, Consumer<ChanceBench> due) {
        ChanceBench one = rich();
        ChanceBench other = rich();
        Due.is(call, Due.told(() -> asked.applyAsLong(one)), want);
        due.accept(other);
        Due.is(call + ", and what the bench tells then", all(one), all(other));
    }

    /** All that is told of a bench of rich()'s past; its tape and its acts are used up by that. */
    private static String all(ChanceBench x) {
        StringBuilder text = new StringBuilder("counts");
        for (int what = 0; what <= 5; what++) {
            text.append(' ').append(x.count(what));
        }
        text.append(" bound ").append(x.bound()).append(" taken ").append(x.taken());
        for (int a = 0; a < 16; a++) {
            text.append(x.values(a) == 0 ? "" : " law " + a + " " + Due.law(x, a));
        }
        addJointAndPairs(text, x);
        addActs(text, x);
        text.append(" tape ").append(x.sheet(BARE, 0, 1)).append(' ').append(Due.law(x, BARE));
        return text.toString();
    }

    private static void addJointAndPairs(StringBuilder text, ChanceBench x) {
        for (int v = 1; v <= 6; v++) {
            text.append(" pair ").append(v);
            for (int w = 1; w <= 2; w++) {
                text.append(' ').append(x.pair(v, w, 0)).append('/').append(x.pair(v, w, 1));
            }
        }
        for (int i = 0; i < Math.min(2, x.count(4)); i++) {
            text.append(" dice ").append(Due.dice(x, i, 2, 3));
        }
    }

    private static void addActs(StringBuilder text, ChanceBench x) {
        for (int turn = 0; turn < 4; turn++) {
            text.append(" redo ").append(x.redo());
            addFirstValues(text, x);
        }
        for (int turn = 0; turn < 8; turn++) {
            text.append(" undo ").append(x.undo());
            addFirstValues(text, x);
        }
    }

    private static void addFirstValues(StringBuilder text, ChanceBench x) {
        for (int a : USED) {
            int n = x.values(a);
            text.append(' ').append(n == 0 ? "none" : n + ":" + x.value(a, 0));
        }
    }
}
