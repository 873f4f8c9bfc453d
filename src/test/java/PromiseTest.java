/** One method for each promise of the document: ordinary inputs, the edges that it names, and wrong inputs. */
public final class PromiseTest {
    private static final int LOW = Integer.MIN_VALUE;
    private static final int HIGH = Integer.MAX_VALUE;

    private PromiseTest() {
    }

    public static void main(String[] args) {
        newObject();
        feed();
        end();
        sheet();
        wheel();
        urn();
        coin();
        sum();
        times();
        of();
        mix();
        given();
        undo();
        undoGoesBackThirtyActs();
        redo();
        values();
        value();
        chance();
        below();
        mean();
        variance();
        apart();
        far();
        above();
        spread();
        bound();
        joint();
        pair();
        open();
        leaf();
        lots();
        draw();
        taken();
        pairs();
        face();
        beats();
        ring();
        count();
        throwingChangesNothing();
        Due.end("PromiseTest");
    }

    private static String fraction(long upper, long lower) {
        return upper + "/" + lower;
    }

    // 1
    private static void newObject() {
        Due.is("NONE", ChanceBench.NONE, -1);
        ChanceBench x = new ChanceBench();
        for (int what = 0; what <= 5; what++) {
            Due.is("new: count(" + what + ")", x.count(what), 0);
        }
        for (int a = 0; a < 16; a++) {
            Due.is("new: values(" + a + ")", x.values(a), 0);
        }
        Due.is("new: pair", fraction(x.pair(0, 0, 0), x.pair(0, 0, 1)), "0/1");
        Due.thrown("new: face", () -> x.face(0, 0, 0));
        Due.is("new: bound", x.bound(), 5000);
        Due.is("new: taken", x.taken(), 0);
        Due.is("new: undo", x.undo(), false);
        Due.is("new: redo", x.redo(), false);
        x.wheel(0, 3, 1);
        Due.is("another new one has a bench of its own", new ChanceBench().count(0), 0);
    }

    // 2
    private static void feed() {
        ChanceBench x = new ChanceBench();
        Due.is("feed, first", x.feed(0x01020304, 0x05060708, 0x090A0B0C, 0x0D0E0F10, 0x11121314), 20);
        x.sheet(0, 1, 1);
        for (int v = 1; v <= 20; v++) {
            Due.is("byte " + v + " of a feed", x.chance(0, v, 0) * 210 / x.chance(0, v, 1), v);
        }
        x.feed(0xFF00FE00, 0, 0, 0, 0xFD);
        x.sheet(1, 0, 1);
        Due.lawIs("bytes are 0 to 255", x, 1, "0:85/254 2:1/3 19:253/762");
        for (int k = 1; k <= 10; k++) {
            Due.is("feed " + k, x.feed(k, k, k, k, k), 20 * k);
        }
        Due.is("feed over 200", x.feed(1, 1, 1, 1, 1), -1);
        Due.is("none came", x.count(1), 200);
        x.end(181);
        Due.is("feed to 201", x.feed(1, 1, 1, 1, 1), -1);
        Due.is("none came to 181", x.count(1), 181);
        x.end(180);
        Due.is("feed to 200", x.feed(1, 1, 1, 1, 1), 200);
    }

    // 3
    private static void end() {
        ChanceBench x = new ChanceBench();
        Due.is("end(0) of none", x.end(0), true);
        Due.is("end(1) of none", x.end(1), false);
        x.feed(0x01020300, 0, 0, 0, 0);
        Due.is("end(21)", x.end(21), false);
        Due.is("end(-1)", x.end(-1), false);
        Due.is("end(least)", x.end(LOW), false);
        Due.is("end(most)", x.end(HIGH), false);
        Due.is("all are there", x.count(1), 20);
        Due.is("end(20)", x.end(20), true);
        Due.is("end(2)", x.end(2), true);
        Due.is("two are there", x.count(1), 2);
        Due.is("end(3) of two", x.end(3), false);
        Due.is("two more follow", x.feed(0x09000000, 0, 0, 0, 0), 22);
        x.sheet(0, 0, 1);
        Due.lawIs("the first ones stay", x, 0, "0:1/12 1:1/6 2:3/4");
    }

    // 4
    private static void sheet() {
        ChanceBench x = new ChanceBench();
        Due.put(x, 15, -4, 3, 2, 0, 4, 6);
        Due.lawIs("sheet", x, 15, "-4:1/6 2:1/3 5:1/2");
        Due.is("the tape is empty then", x.count(1), 0);
        refusedSheet(x, "no such slot", 16, 0, 1, 1);
        refusedSheet(x, "slot -1", -1, 0, 1, 1);
        refusedSheet(x, "step 0", 15, 0, 0, 1);
        refusedSheet(x, "step 101", 15, 0, 101, 1);
        refusedSheet(x, "step -1", 15, 0, -1, 1);
        refusedSheet(x, "no weight", 15, 0, 1, 0, 0);
        refusedSheet(x, "no bytes", 15, 0, 1);
        refusedSheet(x, "1001", 15, 1000, 1, 1, 1);
        refusedSheet(x, "-1001", 15, -1001, 1, 1, 1);
        refusedSheet(x, "far below", 15, LOW, 100, 1, 1);
        refusedSheet(x, "far above, and round", 15, HIGH, 100, 0, 1, 1);
        int[] many = new int[25];
        java.util.Arrays.fill(many, 1);
        refusedSheet(x, "25 values", 15, 0, 1, many);
        Due.lawIs("the slot stays", x, 15, "-4:1/6 2:1/3 5:1/2");
        Due.is("and no act was done", x.count(2), 1);
        many[7] = 0;
        Due.put(x, 0, 900, 1, many);
        Due.is("24 values of 25 places", x.values(0), 24);
        Due.put(x, 0, -1002, 1, 0, 0, 9);
        Due.lawIs("places of weight 0 may be beyond", x, 0, "-1000:1/1");
        Due.put(x, 0, 1000, 100, 7, 0, 0);
        Due.lawIs("beyond above, too", x, 0, "1000:1/1");
        int[] wide = new int[200];
        wide[199] = 1;
        wide[180] = 3;
        Due.put(x, 0, -18900, 100, wide);
        Due.lawIs("200 bytes", x, 0, "-900:3/4 1000:1/4");
    }

    private static void refusedSheet(ChanceBench x, String why, int s, int from, int step, int... bytes) {
        Due.tape(x, bytes);
        Due.is("sheet: " + why, x.sheet(s, from, step), false);
        Due.is("sheet: " + why + ": the tape is empty", x.count(1), 0);
    }

    // 5
    private static void wheel() {
        ChanceBench x = new ChanceBench();
        Due.is("wheel", x.wheel(0, 3, -1), true);
        Due.lawIs("wheel", x, 0, "-1:1/3 0:1/3 1:1/3");
        Due.is("wheel of 1", x.wheel(0, 1, 1000), true);
        Due.is("wheel of 24 to 1000", x.wheel(1, 24, 977), true);
        Due.is("wheel of 24 to 1001", x.wheel(0, 24, 978), false);
        Due.is("wheel of 24 from -1000", x.wheel(1, 24, -1000), true);
        Due.is("wheel of 24 from -1001", x.wheel(0, 24, -1001), false);
        Due.is("wheel of 25", x.wheel(0, 25, 0), false);
        Due.is("wheel of 0", x.wheel(0, 0, 0), false);
        Due.is("wheel of -1", x.wheel(0, -1, 0), false);
        Due.is("wheel of most", x.wheel(0, HIGH, 0), false);
        Due.is("wheel from most", x.wheel(0, 2, HIGH), false);
        Due.is("wheel from least", x.wheel(0, 2, LOW), false);
        Due.is("wheel in slot 16", x.wheel(16, 2, 1), false);
        Due.is("wheel in slot -1", x.wheel(-1, 2, 1), false);
        Due.lawIs("the slot stays", x, 0, "1000:1/1");
        x.feed(1, 2, 3, 4, 5);
        x.wheel(0, 2, 0);
        x.wheel(0, 25, 0);
        Due.is("a wheel leaves the tape", x.count(1), 20);
    }

    // 6
    private static void urn() {
        ChanceBench x = new ChanceBench();
        Due.is("urn, back", x.urn(0, 1, 2, 2, true), true);
        Due.lawIs("urn, back", x, 0, "0:4/9 1:4/9 2:1/9");
        Due.is("urn, not back", x.urn(0, 2, 2, 2, false), true);
        Due.lawIs("urn, not back", x, 0, "0:1/6 1:2/3 2:1/6");
        Due.is("urn, emptied", x.urn(0, 2, 3, 5, false), true);
        Due.lawIs("urn, emptied", x, 0, "2:1/1");
        Due.is("urn, few others", x.urn(0, 4, 1, 3, false), true);
        Due.lawIs("urn, few others", x, 0, "2:3/5 3:2/5");
        Due.is("urn of one", x.urn(0, 1, 0, 1, false), true);
        Due.lawIs("urn of one", x, 0, "1:1/1");
        Due.is("urn of one, back", x.urn(0, 0, 1, 10, true), true);
        Due.lawIs("urn of one, back", x, 0, "0:1/1");
        Due.is("urn, none marked", x.urn(0, 0, 20, 10, true), true);
        Due.lawIs("urn, none marked", x, 0, "0:1/1");
        Due.is("urn, all marked", x.urn(0, 20, 0, 10, false), true);
        Due.lawIs("urn, all marked", x, 0, "10:1/1");
        Due.is("urn of 40, back", x.urn(0, 10, 20, 10, true), true);
        Due.is("3^10", x.chance(0, 0, 1), 59049);
        Due.is("2^10", x.chance(0, 0, 0), 1024);
        Due.is("4^10 is 1048576", x.urn(0, 5, 15, 10, true), true);
        Due.is("4^10 is 1048576", x.chance(0, 10, 1), 1048576);
        Due.is("not back, 984126 by the divisor", x.urn(0, 19, 20, 10, false), true);
        Due.is("not back, 1081575", x.urn(0, 8, 17, 8, false), false);
        Due.is("5^10 is too great", x.urn(0, 4, 16, 10, true), false);
        int[][] wrong = {
            {0, -1, 5, 1}, {0, 21, 5, 1}, {0, 5, -1, 1}, {0, 5, 21, 1}, {0, 0, 0, 1}, {0, 5, 5, 0}, {0, 5, 5, 11}, {16, 5, 5, 1},
            {-1, 5, 5, 1}, {0, LOW, 5, 1}, {0, HIGH, HIGH, 1}, {0, 5, 5, HIGH}, {0, -5, 5, 1}
        };
        for (int[] w : wrong) {
            Due.is("urn" + java.util.Arrays.toString(w), x.urn(w[0], w[1], w[2], w[3], true), false);
            Due.is("urn" + java.util.Arrays.toString(w), x.urn(w[0], w[1], w[2], w[3], false), false);
        }
        Due.is("more draws than there are, not back", x.urn(0, 1, 2, 4, false), false);
        Due.is("more draws than there are, back", x.urn(0, 1, 2, 4, true), true);
    }

    // 7
    private static void coin() {
        ChanceBench x = new ChanceBench();
        Due.is("coin", x.coin(0, 2, 6), true);
        Due.lawIs("coin", x, 0, "0:2/3 1:1/3");
        Due.is("coin 0", x.coin(0, 0, 7), true);
        Due.lawIs("coin 0", x, 0, "0:1/1");
        Due.is("coin 1", x.coin(0, 7, 7), true);
        Due.lawIs("coin 1", x, 0, "1:1/1");
        Due.is("coin, most", x.coin(0, 1, 1048576), true);
        Due.lawIs("coin, most", x, 0, "0:1048575/1048576 1:1/1048576");
        Due.is("coin, over", x.coin(0, 2, 1048578), false);
        Due.is("coin of 0", x.coin(0, 0, 0), false);
        Due.is("coin of -2", x.coin(0, -1, -2), false);
        Due.is("coin -1", x.coin(0, -1, 2), false);
        Due.is("coin 3 of 2", x.coin(0, 3, 2), false);
        Due.is("coin in 16", x.coin(16, 1, 2), false);
    }

    // 8
    private static void sum() {
        ChanceBench x = new ChanceBench();
        x.wheel(0, 2, 0);
        Due.put(x, 1, -1, 2, 1, 2);
        Due.is("sum", x.sum(2, 0, 1), true);
        Due.lawIs("sum", x, 2, "-1:1/6 0:1/6 1:1/3 2:1/3");
        Due.is("sum of itself, apart, in its place", x.sum(0, 0, 0), true);
        Due.lawIs("sum of itself", x, 0, "0:1/4 1:1/2 2:1/4");
        Due.is("no law", x.sum(0, 0, 9), false);
        Due.is("no law", x.sum(0, 9, 0), false);
        Due.is("no slot", x.sum(0, 16, 0), false);
        Due.is("no slot", x.sum(0, 0, -1), false);
        Due.is("no slot for it", x.sum(16, 0, 0), false);
        x.wheel(3, 12, 500);
        Due.is("beyond 1000", x.sum(4, 3, 3), false);
        x.wheel(3, 13, 0);
        Due.is("25 values", x.sum(4, 3, 3), false);
        x.wheel(5, 12, 0);
        Due.is("24 values", x.sum(4, 3, 5), true);
        x.coin(6, 1, 1024);
        x.times(7, 6, 2, 0);
        Due.is("whole of 1048576", x.sum(8, 6, 7), true);
        Due.is("its last one", x.chance(8, 3, 1), 1048576);
        x.coin(6, 1, 1025);
        Due.is("whole too great", x.sum(9, 6, 7), false);
        x.coin(6, 1, 17);
        x.coin(7, 1, 61681);
        x.times(7, 7, 2, 0);
        Due.is("whole of 1048577", x.sum(9, 6, 7), false);
        Due.is("nothing there", x.values(9), 0);
    }

    // 9
    private static void times() {
        ChanceBench x = new ChanceBench();
        x.coin(0, 1, 3);
        Due.is("times", x.times(1, 0, -1000, 500), true);
        Due.lawIs("times", x, 1, "-500:1/3 500:2/3");
        Due.is("times 1000", x.times(1, 0, 1000, 0), true);
        Due.is("times 0", x.times(1, 0, 0, -1000), true);
        Due.lawIs("times 0", x, 1, "-1000:1/1");
        Due.is("add 2000", x.times(2, 1, 1, 2000), true);
        Due.lawIs("add 2000", x, 2, "1000:1/1");
        Due.is("add -2000", x.times(2, 2, 1, -2000), true);
        Due.lawIs("add -2000", x, 2, "-1000:1/1");
        Due.is("k 1001", x.times(2, 0, 1001, -500), false);
        Due.is("k -1001", x.times(2, 0, -1001, 500), false);
        x.wheel(3, 1, 0);
        Due.is("k 1001 of 0", x.times(2, 3, 1001, 0), false);
        Due.is("add 2001", x.times(2, 1, 1, 2001), false);
        x.wheel(3, 1, 1000);
        Due.is("add -2001, though it ends within", x.times(2, 3, 2, -2001), false);
        Due.is("add -2000, and it ends within", x.times(2, 3, 2, -2000), true);
        x.wheel(3, 1, -1000);
        Due.is("add 2001, though it ends within", x.times(2, 3, 2, 2001), false);
        Due.is("add 2000, and it ends within", x.times(2, 3, 2, 2000), true);
        Due.is("beyond", x.times(2, 0, 1000, 1), false);
        Due.is("beyond", x.times(2, 0, -1000, -1), false);
        Due.is("far beyond", x.times(2, 3, 1000, 0), false);
        Due.is("no law", x.times(2, 9, 1, 0), false);
        Due.is("no slot", x.times(2, 16, 1, 0), false);
        Due.is("no slot for it", x.times(16, 0, 1, 0), false);
    }

    // 10
    private static void of() {
        ChanceBench x = new ChanceBench();
        x.wheel(0, 3, -1);
        x.wheel(1, 2, 0);
        Due.is("lesser", x.of(2, 0, 1, 0), true);
        Due.lawIs("lesser", x, 2, "-1:1/3 0:1/2 1:1/6");
        Due.is("greater", x.of(2, 0, 1, 1), true);
        Due.lawIs("greater", x, 2, "0:1/3 1:2/3");
        x.wheel(1, 2, 5);
        Due.put(x, 3, -7, 7, 1, 2, 3);
        Due.is("by the sign", x.of(2, 1, 3, 2), true);
        Due.lawIs("by the sign", x, 2, "-6:1/12 -5:1/12 0:1/3 5:1/4 6:1/4");
        Due.is("what 3", x.of(2, 1, 3, 3), false);
        Due.is("what -1", x.of(2, 1, 3, -1), false);
        Due.is("no law", x.of(2, 9, 3, 0), false);
        Due.is("no law", x.of(2, 1, 9, 0), false);
        Due.is("no slot", x.of(-1, 1, 3, 0), false);
        x.wheel(4, 13, 1);
        Due.is("26 values", x.of(5, 4, 3, 2), false);
        x.wheel(4, 12, 1);
        Due.is("25 values", x.of(5, 4, 3, 2), false);
        x.given(3, 3, 0, 7);
        Due.is("13 values", x.of(5, 4, 3, 2), true);
    }

    // 11
    private static void mix() {
        ChanceBench x = new ChanceBench();
        x.wheel(0, 2, 0);
        x.wheel(1, 3, 1);
        Due.is("mix", x.mix(2, 0, 1, 1, 4), true);
        Due.lawIs("mix", x, 2, "0:1/8 1:3/8 2:1/4 3:1/4");
        Due.is("mix 0", x.mix(2, 0, 1, 0, 1), true);
        Due.lawIs("mix 0", x, 2, "1:1/3 2:1/3 3:1/3");
        Due.is("mix all", x.mix(2, 0, 1, 1000, 1000), true);
        Due.lawIs("mix all", x, 2, "0:1/2 1:1/2");
        Due.is("q 0", x.mix(2, 0, 1, 0, 0), false);
        Due.is("q -1", x.mix(2, 0, 1, -1, -1), false);
        Due.is("q 1001", x.mix(2, 0, 1, 1, 1001), false);
        Due.is("p -1", x.mix(2, 0, 1, -1, 2), false);
        Due.is("p over q", x.mix(2, 0, 1, 3, 2), false);
        Due.is("no law of chance 0", x.mix(2, 9, 1, 0, 2), false);
        Due.is("no law of chance 0", x.mix(2, 0, 9, 2, 2), false);
        Due.is("no slot", x.mix(16, 0, 1, 1, 2), false);
        x.wheel(3, 24, 0);
        x.wheel(4, 24, 24);
        Due.is("48 values", x.mix(5, 3, 4, 1, 2), false);
        Due.is("24 of them have none", x.mix(5, 3, 4, 0, 2), true);
        x.coin(6, 1, 1048576);
        x.coin(7, 1, 1048575);
        Due.is("whole too great", x.mix(5, 6, 7, 1, 2), false);
        Due.is("by 1000 and 2^40: one with itself", x.mix(5, 6, 6, 333, 1000), true);
        Due.lawIs("one with itself", x, 5, "0:1048575/1048576 1:1/1048576");
    }

    // 12
    private static void given() {
        ChanceBench x = new ChanceBench();
        Due.put(x, 0, 1, 1, 1, 2, 3, 6);
        Due.is("given", x.given(1, 0, 2, 3), true);
        Due.lawIs("given", x, 1, "2:2/5 3:3/5");
        Due.is("given one", x.given(1, 0, 4, 4), true);
        Due.lawIs("given one", x, 1, "4:1/1");
        Due.is("given all", x.given(1, 0, LOW, HIGH), true);
        Due.lawIs("given all", x, 1, "1:1/12 2:1/6 3:1/4 4:1/2");
        Due.is("given none", x.given(1, 0, 5, 9), false);
        Due.is("low above high", x.given(1, 0, 3, 2), false);
        Due.is("no law", x.given(1, 9, 1, 2), false);
        Due.is("no slot", x.given(16, 0, 1, 2), false);
        Due.is("given in its place", x.given(0, 0, 0, 2), true);
        Due.lawIs("given in its place", x, 0, "1:1/3 2:2/3");
    }

    // 13
    private static void undo() {
        ChanceBench x = new ChanceBench();
        x.wheel(0, 2, 0);
        x.wheel(1, 3, 0);
        x.sum(0, 0, 1);
        Due.tape(x, 1, 1, 1);
        x.sheet(1, 9, 1);
        x.feed(0, 0, 0, 0, 0);
        Due.is("undo sheet", x.undo(), true);
        Due.lawIs("undo sheet", x, 1, "0:1/3 1:1/3 2:1/3");
        Due.is("undo leaves the tape", x.count(1), 20);
        Due.is("undo sum", x.undo(), true);
        Due.lawIs("undo sum", x, 0, "0:1/2 1:1/2");
        Due.is("undo wheel", x.undo(), true);
        Due.is("no law again", x.values(1), 0);
        Due.is("undo wheel", x.undo(), true);
        Due.is("no laws again", x.count(0), 0);
        Due.is("nothing left", x.undo(), false);
        Due.is("all four can be done again", x.count(3), 4);
        String[] acts = {"sheet", "wheel", "urn", "coin", "sum", "times", "of", "mix", "given"};
        for (int k = 0; k < acts.length; k++) {
            ChanceBench y = new ChanceBench();
            y.wheel(1, 2, 1);
            Due.is(acts[k] + " is done", act(y, k), true);
            Due.is(acts[k] + " is an act", y.count(2), 2);
            Due.is(acts[k] + " made a law", y.count(0), 2);
            y.undo();
            Due.is(acts[k] + " is undone", y.count(0), 1);
            y.redo();
            Due.is(acts[k] + " is done again", y.count(0), 2);
        }
    }

    private static boolean act(ChanceBench x, int which) {
        switch (which) {
            case 0:
                Due.tape(x, 1, 2);
                return x.sheet(5, 0, 1);
            case 1:
                return x.wheel(5, 2, 0);
            case 2:
                return x.urn(5, 1, 1, 1, true);
            case 3:
                return x.coin(5, 1, 2);
            case 4:
                return x.sum(5, 1, 1);
            case 5:
                return x.times(5, 1, 2, 0);
            case 6:
                return x.of(5, 1, 1, 0);
            case 7:
                return x.mix(5, 1, 1, 1, 2);
            default:
                return x.given(5, 1, 1, 1);
        }
    }

    private static void undoGoesBackThirtyActs() {
        ChanceBench x = new ChanceBench();
        for (int k = 0; k < 75; k++) {
            x.wheel(k % 2, 1, k);
            Due.is("acts that can be undone", x.count(2), Math.min(k + 1, 30));
        }
        for (int k = 74; k >= 45; k--) {
            Due.is("value of act " + k, x.value(k % 2, 0), k);
            Due.is("undo act " + k, x.undo(), true);
            Due.is("value ahead of act " + k, x.value(k % 2, 0), k - 2);
        }
        Due.is("no 31st", x.undo(), false);
        Due.is("30 to be done again", x.count(3), 30);
        for (int k = 45; k < 75; k++) {
            Due.is("redo act " + k, x.redo(), true);
            Due.is("value of act " + k + " again", x.value(k % 2, 0), k);
        }
        Due.is("no 31st", x.redo(), false);
        for (int k = 0; k < 10; k++) {
            x.undo();
        }
        x.wheel(5, 1, 1);
        Due.is("20 and one", x.count(2), 21);
        Due.is("none to be done again", x.count(3), 0);
    }

    // 14
    private static void redo() {
        ChanceBench x = new ChanceBench();
        x.wheel(0, 2, 0);
        x.sum(0, 0, 0);
        Due.is("nothing was undone", x.redo(), false);
        x.undo();
        x.undo();
        Due.is("the latest one undone", x.redo(), true);
        Due.lawIs("the latest one undone", x, 0, "0:1/2 1:1/2");
        Due.is("an act that is not done is none", x.wheel(0, 0, 0), false);
        Due.is("the sum again", x.redo(), true);
        Due.lawIs("the sum again", x, 0, "0:1/4 1:1/2 2:1/4");
        Due.is("no more", x.redo(), false);
        x.undo();
        x.feed(1, 1, 1, 1, 1);
        x.pairs(0, 2, 1);
        x.joint(0, 0, 1);
        x.draw(0);
        Due.is("what is no act does not stand between", x.count(3), 1);
        x.wheel(7, 1, 1);
        Due.is("another act does", x.redo(), false);
        Due.is("another act does", x.count(3), 0);
        x.undo();
        Due.is("but it can be done again", x.redo(), true);
        Due.is("but it can be done again", x.values(7), 1);
        Due.tape(x, 1, 3);
        x.sheet(2, 0, 1);
        x.undo();
        Due.tape(x, 1, 1, 1, 1);
        x.redo();
        Due.lawIs("a sheet is done again with the bytes that it had", x, 2, "0:1/4 1:3/4");
        Due.is("the tape stays", x.count(1), 4);
    }

    // 15
    private static void values() {
        ChanceBench x = new ChanceBench();
        x.wheel(15, 24, 0);
        Due.is("values", x.values(15), 24);
        Due.is("no law", x.values(14), 0);
        Due.is("no slot", x.values(16), 0);
        Due.is("no slot", x.values(-1), 0);
        Due.is("no slot", x.values(LOW), 0);
        Due.is("no slot", x.values(HIGH), 0);
    }

    // 16
    private static void value() {
        ChanceBench x = new ChanceBench();
        x.wheel(0, 3, 5);
        x.times(0, 0, -2, 0);
        Due.is("value 0", x.value(0, 0), -14);
        Due.is("value 1", x.value(0, 1), -12);
        Due.is("value 2", x.value(0, 2), -10);
        Due.thrown("value 3", () -> x.value(0, 3));
        Due.thrown("value -1", () -> x.value(0, -1));
        Due.thrown("value most", () -> x.value(0, HIGH));
        Due.thrown("no law", () -> x.value(1, 0));
        Due.thrown("no slot", () -> x.value(16, 0));
        Due.thrown("no slot", () -> x.value(-1, 0));
    }

    // 17
    private static void chance() {
        ChanceBench x = new ChanceBench();
        Due.put(x, 0, 0, 1, 2, 0, 4, 6);
        Due.is("chance", fraction(x.chance(0, 0, 0), x.chance(0, 0, 1)), "1/6");
        Due.is("chance", fraction(x.chance(0, 3, 0), x.chance(0, 3, 1)), "1/2");
        Due.is("no such value", fraction(x.chance(0, 1, 0), x.chance(0, 1, 1)), "0/1");
        Due.is("no such value", fraction(x.chance(0, HIGH, 0), x.chance(0, HIGH, 1)), "0/1");
        Due.is("no such value", fraction(x.chance(0, LOW, 0), x.chance(0, LOW, 1)), "0/1");
        Due.thrown("what 2", () -> x.chance(0, 0, 2));
        Due.thrown("what -1", () -> x.chance(0, 0, -1));
        Due.thrown("no law", () -> x.chance(1, 0, 0));
        Due.thrown("no slot", () -> x.chance(16, 0, 0));
    }

    // 18
    private static void below() {
        ChanceBench x = new ChanceBench();
        Due.put(x, 0, -2, 2, 1, 2, 5);
        Due.is("below -3", fraction(x.below(0, -3, 0), x.below(0, -3, 1)), "0/1");
        Due.is("below -2", fraction(x.below(0, -2, 0), x.below(0, -2, 1)), "1/8");
        Due.is("below 1", fraction(x.below(0, 1, 0), x.below(0, 1, 1)), "3/8");
        Due.is("below 2", fraction(x.below(0, 2, 0), x.below(0, 2, 1)), "1/1");
        Due.is("below most", fraction(x.below(0, HIGH, 0), x.below(0, HIGH, 1)), "1/1");
        Due.is("below least", fraction(x.below(0, LOW, 0), x.below(0, LOW, 1)), "0/1");
        Due.thrown("what 2", () -> x.below(0, 0, 2));
        Due.thrown("no law", () -> x.below(1, 0, 0));
        Due.thrown("no slot", () -> x.below(-1, 0, 0));
    }

    // 19
    private static void mean() {
        ChanceBench x = new ChanceBench();
        Due.put(x, 0, -5, 3, 3, 1);
        Due.is("mean below 0", fraction(x.mean(0, 0), x.mean(0, 1)), "-17/4");
        x.wheel(0, 3, -1);
        Due.is("mean 0", fraction(x.mean(0, 0), x.mean(0, 1)), "0/1");
        x.coin(0, 1, 1048576);
        x.times(0, 0, -2, 1000);
        Due.is("mean, far out", fraction(x.mean(0, 0), x.mean(0, 1)), 1000L * 524288 - 1 + "/524288");
        Due.thrown("what 2", () -> x.mean(0, 2));
        Due.thrown("what -1", () -> x.mean(0, -1));
        Due.thrown("no law", () -> x.mean(1, 0));
        Due.thrown("no slot", () -> x.mean(16, 1));
    }

    // 20
    private static void variance() {
        ChanceBench x = new ChanceBench();
        Due.put(x, 0, 1, 3, 1, 2);
        Due.is("variance", fraction(x.variance(0, 0), x.variance(0, 1)), "2/1");
        x.wheel(0, 1, -7);
        Due.is("variance 0", fraction(x.variance(0, 0), x.variance(0, 1)), "0/1");
        x.coin(0, 1, 1048575);
        x.times(0, 0, 1000, 0);
        x.times(1, 0, -2, 1000);
        long whole = 1048575;
        Due.is("variance, greatest numbers", fraction(x.variance(1, 0), x.variance(1, 1)),
                reduced(4000000L * (whole - 1), whole * whole));
        Due.thrown("what 2", () -> x.variance(0, 2));
        Due.thrown("no law", () -> x.variance(9, 0));
    }

    private static String reduced(long upper, long lower) {
        long g = java.math.BigInteger.valueOf(upper).gcd(java.math.BigInteger.valueOf(lower)).longValueExact();
        return fraction(upper / g, lower / g);
    }

    // 21
    private static void apart() {
        ChanceBench x = new ChanceBench();
        Due.put(x, 0, 0, 1, 1, 2, 3);
        Due.put(x, 1, 1, 1, 1, 1, 2);
        // of 1 2 3 0 by 6 and 0 1 1 2 by 4: 2/12 + 1/12 + 3/12 + 6/12, halved
        Due.is("apart", fraction(x.apart(0, 1, 0), x.apart(0, 1, 1)), "1/2");
        Due.is("apart the other way", fraction(x.apart(1, 0, 0), x.apart(1, 0, 1)), "1/2");
        x.wheel(2, 3, 100);
        Due.is("nothing in common", fraction(x.apart(0, 2, 0), x.apart(0, 2, 1)), "1/1");
        Due.is("one law", fraction(x.apart(2, 2, 0), x.apart(2, 2, 1)), "0/1");
        x.coin(3, 1, 1048576);
        x.coin(4, 1, 1048575);
        Due.is("very near", fraction(x.apart(3, 4, 0), x.apart(3, 4, 1)), "1/" + 1048576L * 1048575L);
        Due.thrown("what 2", () -> x.apart(0, 1, 2));
        Due.thrown("no law", () -> x.apart(0, 9, 0));
        Due.thrown("no law", () -> x.apart(9, 0, 0));
        Due.thrown("no slot", () -> x.apart(0, 16, 0));
    }

    // 22
    private static void far() {
        ChanceBench x = new ChanceBench();
        x.wheel(0, 2, 0);
        Due.put(x, 1, 0, 4, 1, 2);
        Due.is("far", fraction(x.far(0, 1, 0), x.far(0, 1, 1)), reduced(1 + 2 * 3 * 2, 6));
        Due.is("far the other way", fraction(x.far(1, 0, 0), x.far(1, 0, 1)), "13/6");
        Due.is("one law", fraction(x.far(1, 1, 0), x.far(1, 1, 1)), "0/1");
        x.wheel(2, 1, -1000);
        x.wheel(3, 1, 1000);
        Due.is("farthest", fraction(x.far(2, 3, 0), x.far(2, 3, 1)), "2000/1");
        x.coin(4, 1, 1048576);
        x.times(4, 4, 1000, 0);
        x.coin(5, 1, 1048575);
        x.times(5, 5, -1000, 0);
        Due.is("great numbers", fraction(x.far(4, 5, 0), x.far(4, 5, 1)),
                reduced(1000L * (1048576L + 1048575L), 1048576L * 1048575L));
        Due.thrown("what 2", () -> x.far(0, 1, 2));
        Due.thrown("no law", () -> x.far(0, 9, 0));
        Due.thrown("no law", () -> x.far(9, 0, 0));
    }

    // 23
    private static void above() {
        ChanceBench x = new ChanceBench();
        x.wheel(0, 6, 1);
        x.wheel(1, 6, 2);
        Due.is("above", x.above(1, 0), 1);
        Due.is("not above", x.above(0, 1), 0);
        Due.is("bound", x.bound(), 2);
        Due.is("itself", x.above(0, 0), 1);
        x.wheel(2, 1, 3);
        Due.is("crossing, one way", x.above(2, 0), 0);
        Due.is("bound", x.bound(), 4);
        Due.is("crossing, the other way", x.above(0, 2), 0);
        Due.is("bound", x.bound(), 2);
        x.wheel(3, 1, 1000);
        x.wheel(4, 1, -1000);
        Due.is("farthest", x.above(4, 3), 0);
        Due.is("bound", x.bound(), -999);
        Due.is("no law", x.above(0, 9), -1);
        Due.is("no law", x.above(9, 0), -1);
        Due.is("no slot", x.above(16, 0), -1);
        Due.is("no slot", x.above(0, -1), -1);
        Due.is("the bound stays", x.bound(), -999);
    }

    // 24
    private static void spread() {
        ChanceBench x = new ChanceBench();
        x.wheel(0, 1, 0);
        x.wheel(1, 3, -1);
        Due.put(x, 2, -10, 10, 1, 2, 1);
        Due.is("one value, and three", x.spread(0, 1), 1);
        Due.is("three, and one value", x.spread(1, 0), 0);
        Due.is("bound", x.bound(), 0);
        Due.is("itself", x.spread(2, 2), 1);
        Due.is("wider", x.spread(1, 2), 1);
        Due.is("not so wide", x.spread(2, 1), 0);
        Due.is("bound", x.bound(), -9);
        // -4, 5 by 5, 4 against -5, 4 by 4, 5: of one mean, each is over the other somewhere
        Due.put(x, 3, -4, 9, 5, 4);
        Due.put(x, 4, -5, 9, 4, 5);
        Due.is("crossing", x.spread(3, 4), 0);
        Due.is("bound between values", x.bound(), 1);
        Due.is("crossing the other way", x.spread(4, 3), 0);
        Due.is("bound", x.bound(), -4);
        x.wheel(5, 2, 0);
        Due.is("means unlike", x.spread(0, 5), 2);
        Due.is("the bound stays", x.bound(), -4);
        Due.is("no law", x.spread(0, 9), -1);
        Due.is("no law", x.spread(9, 0), -1);
        Due.is("no slot", x.spread(0, 16), -1);
    }

    // 25
    private static void bound() {
        ChanceBench x = new ChanceBench();
        x.wheel(0, 2, 1);
        x.wheel(1, 2, 2);
        Due.put(x, 2, 0, 3, 1, 1);
        x.above(1, 0);
        Due.is("above was not 0", x.bound(), 5000);
        x.spread(0, 2);
        Due.is("spread was not 0", x.bound(), 5000);
        x.above(0, 1);
        Due.is("of above", x.bound(), 2);
        x.spread(2, 0);
        Due.is("of spread", x.bound(), 1);
        x.spread(0, 1);
        x.above(1, 0);
        x.above(9, 9);
        Due.is("the latest that was 0", x.bound(), 1);
        x.wheel(0, 1, 7);
        x.undo();
        Due.is("it stays, whatever the laws are now", x.bound(), 1);
    }

    // 26
    private static void joint() {
        ChanceBench x = new ChanceBench();
        Due.put(x, 0, 0, 1, 1, 1, 2);
        Due.put(x, 1, 1, 1, 1, 2, 1);
        Due.is("joint 0", x.joint(0, 1, 0), 3);
        Due.is("0, 3", fraction(x.pair(0, 3, 0), x.pair(0, 3, 1)), "1/4");
        Due.is("1, 1", fraction(x.pair(1, 1, 0), x.pair(1, 1, 1)), "1/4");
        Due.is("2, 2", fraction(x.pair(2, 2, 0), x.pair(2, 2, 1)), "1/2");
        Due.is("joint 1", x.joint(0, 1, 1), 4);
        Due.is("0, 1", fraction(x.pair(0, 1, 0), x.pair(0, 1, 1)), "1/4");
        Due.is("1, 2", fraction(x.pair(1, 2, 0), x.pair(1, 2, 1)), "1/4");
        Due.is("2, 2", fraction(x.pair(2, 2, 0), x.pair(2, 2, 1)), "1/4");
        Due.is("2, 3", fraction(x.pair(2, 3, 0), x.pair(2, 3, 1)), "1/4");
        Due.is("how 2", x.joint(0, 1, 2), -1);
        Due.is("how -1", x.joint(0, 1, -1), -1);
        Due.is("no law", x.joint(0, 9, 0), -1);
        Due.is("no law", x.joint(9, 0, 0), -1);
        Due.is("no slot", x.joint(16, 0, 0), -1);
        Due.is("the joint that there was", x.count(5), 4);
        x.wheel(0, 1, 9);
        Due.is("it stays, whatever the laws are now", x.pair(2, 3, 0), 1);
        x.wheel(2, 24, 0);
        Due.is("itself", x.joint(2, 2, 0), 24);
        x.wheel(3, 24, -1000);
        x.wheel(4, 23, 100);
        Due.is("24 and 23 all apart", x.joint(3, 4, 0), 46);
        x.wheel(4, 23, 0);
        Due.is("24 and 23 of them", x.joint(2, 4, 0), 23 + 23);
    }

    // 27
    private static void pair() {
        ChanceBench x = new ChanceBench();
        Due.is("no joint", fraction(x.pair(1, 1, 0), x.pair(1, 1, 1)), "0/1");
        Due.thrown("no joint, what 2", () -> x.pair(1, 1, 2));
        x.wheel(0, 2, 0);
        x.wheel(1, 1, 5);
        x.joint(0, 1, 1);
        Due.is("the first is of the first law", fraction(x.pair(1, 5, 0), x.pair(1, 5, 1)), "1/2");
        Due.is("and not the other way", fraction(x.pair(5, 1, 0), x.pair(5, 1, 1)), "0/1");
        Due.is("no such value", fraction(x.pair(9, 5, 0), x.pair(9, 5, 1)), "0/1");
        Due.is("no such value", fraction(x.pair(LOW, HIGH, 0), x.pair(LOW, HIGH, 1)), "0/1");
        Due.thrown("what 2", () -> x.pair(1, 5, 2));
        Due.thrown("what -1", () -> x.pair(1, 5, -1));
    }

    // 28
    private static void open() {
        ChanceBench x = new ChanceBench();
        Due.put(x, 0, 0, 1, 1, 1, 1, 1, 1);
        int[] due = {1, 2, 4, 3, 1, 2, 4, 3, 1};
        for (int k = 0; k < due.length; k++) {
            Due.is("open of fifths at " + k, x.open(0, k), due[k]);
        }
        Due.is("depth 60", x.open(0, 60), 1);
        Due.put(x, 1, 0, 1, 1, 1, 2);
        int[] ending = {1, 1, 0, 0, 0};
        for (int k = 0; k < ending.length; k++) {
            Due.is("open of quarters at " + k, x.open(1, k), ending[k]);
        }
        x.wheel(2, 1, 7);
        Due.is("one value", x.open(2, 0), 0);
        Due.is("one value", x.open(2, 60), 0);
        x.wheel(3, 23, 0);
        Due.is("23rds at 4", x.open(3, 4), 16);
        Due.is("23rds at 5", x.open(3, 5), 9);
        Due.thrown("depth 61", () -> x.open(0, 61));
        Due.thrown("depth -1", () -> x.open(0, -1));
        Due.thrown("no law", () -> x.open(9, 0));
        Due.thrown("no slot", () -> x.open(16, 0));
    }

    // 29
    private static void leaf() {
        ChanceBench x = new ChanceBench();
        Due.put(x, 0, 3, 1, 5, 3);
        boolean[] ofFive = {false, true, false, true, false};
        boolean[] ofThree = {false, false, true, true, false};
        for (int k = 0; k < 5; k++) {
            Due.is("leaf of 5/8 at " + k, x.leaf(0, 3, k), ofFive[k]);
            Due.is("leaf of 3/8 at " + k, x.leaf(0, 4, k), ofThree[k]);
            Due.is("leaf of no value at " + k, x.leaf(0, 5, k), false);
        }
        x.coin(1, 1, 2);
        Due.is("1/2 is .1, not .0111..", x.leaf(1, 1, 1), true);
        Due.is("1/2 is .1, not .0111..", x.leaf(1, 1, 2), false);
        x.coin(2, 1, 3);
        Due.is("1/3 at 60", x.leaf(2, 1, 60), true);
        Due.is("1/3 at 59", x.leaf(2, 1, 59), false);
        x.wheel(3, 1, -3);
        Due.is("one value", x.leaf(3, -3, 0), true);
        Due.is("one value, deeper", x.leaf(3, -3, 1), false);
        Due.thrown("depth 61", () -> x.leaf(0, 3, 61) ? 1 : 0);
        Due.thrown("depth -1", () -> x.leaf(0, 3, -1) ? 1 : 0);
        Due.thrown("depth -1 of no value", () -> x.leaf(0, 9, -1) ? 1 : 0);
        Due.thrown("no law", () -> x.leaf(9, 3, 0) ? 1 : 0);
        Due.thrown("no slot", () -> x.leaf(-1, 3, 0) ? 1 : 0);
    }

    // 30
    private static void lots() {
        ChanceBench x = new ChanceBench();
        Due.put(x, 0, 0, 1, 1, 1, 2);
        String[] due = {"0/1", "1/1", "3/2", "3/2"};
        for (int d = 0; d < due.length; d++) {
            Due.is("lots of quarters, " + d, fraction(x.lots(0, d, 0), x.lots(0, d, 1)), due[d]);
        }
        x.wheel(1, 3, 0);
        // 1, then 2 / 2, then 1 / 4, then 2 / 8
        String[] thirds = {"0/1", "1/1", "2/1", "9/4", "5/2", "41/16"};
        for (int d = 0; d < thirds.length; d++) {
            Due.is("lots of thirds, " + d, fraction(x.lots(1, d, 0), x.lots(1, d, 1)), thirds[d]);
        }
        x.coin(2, 1, 3);
        Due.is("lots of a third, 40", fraction(x.lots(2, 40, 0), x.lots(2, 40, 1)), ((1L << 40) - 1) + "/" + (1L << 39));
        x.wheel(3, 1, 0);
        Due.is("one value", fraction(x.lots(3, 40, 0), x.lots(3, 40, 1)), "0/1");
        Due.thrown("d 41", () -> x.lots(0, 41, 0));
        Due.thrown("d -1", () -> x.lots(0, -1, 0));
        Due.thrown("what 2", () -> x.lots(0, 1, 2));
        Due.thrown("no law", () -> x.lots(9, 1, 0));
    }

    // 31
    private static void draw() {
        ChanceBench x = new ChanceBench();
        Due.put(x, 0, 10, 10, 1, 1, 1, 1, 1);
        // fifths: 0011 for ever, so the first leaves are at depth 3, of eight places there
        int[] third = {10, 20, 30, 40, 50};
        for (int b = 0; b < 8; b++) {
            Due.tape(x, b << 5);
            int got = x.draw(0);
            Due.is("the tape is empty then", x.count(1), 0);
            if (b < 5) {
                Due.is("leaf " + b + " of depth 3", got, third[b]);
                Due.is("lots", x.taken(), 3);
            } else {
                // open place b - 5 goes on with lot 0: the numbers 0, 2, 4 of depth 4 are leaves
                Due.is("leaf of depth 4", got, third[2 * (b - 5)]);
                Due.is("lots", x.taken(), 4);
            }
        }
        Due.tape(x, 0xF0);
        Due.is("1111: place 0 of depth 4, and 4 lots of 0: 8 lots, leaf 0 of depth 7", x.draw(0), 10);
        Due.is("lots", x.taken(), 7);
        x.coin(1, 1, 3);
        Due.tape(x, 255, 255, 0x80);
        Due.is("over two bytes", x.draw(1), 1);
        Due.is("over two bytes", x.taken(), 18);
        Due.tape(x, 255, 255);
        Due.is("not enough", x.draw(1), 5000);
        Due.is("not enough", x.taken(), 16);
        Due.is("the tape is empty then", x.count(1), 0);
        Due.is("no bits", x.draw(1), 5000);
        x.wheel(2, 1, -9);
        Due.tape(x, 1, 2, 3);
        Due.is("one value", x.draw(2), -9);
        Due.is("one value", x.taken(), 0);
        Due.is("the tape is empty then", x.count(1), 0);
        int[] all = new int[200];
        java.util.Arrays.fill(all, 255);
        Due.tape(x, all);
        Due.is("1600 lots", x.draw(1), 5000);
        Due.is("1600 lots", x.taken(), 1600);
        Due.tape(x, 1, 2, 3);
        Due.thrown("no law", () -> x.draw(9));
        Due.thrown("no slot", () -> x.draw(16));
        Due.thrown("no slot", () -> x.draw(-1));
        Due.is("the tape stays", x.count(1), 3);
        Due.is("what was taken stays", x.taken(), 1600);
    }

    // 32
    private static void taken() {
        ChanceBench x = new ChanceBench();
        Due.is("ahead of any", x.taken(), 0);
        x.coin(0, 1, 2);
        Due.tape(x, 0x80);
        x.draw(0);
        Due.is("one lot", x.taken(), 1);
        Due.tape(x, 0x80);
        x.ring(0);
        Due.is("of the latest draw", x.taken(), 1);
        x.draw(0);
        Due.is("none", x.taken(), 0);
    }

    // 33
    private static void pairs() {
        ChanceBench x = new ChanceBench();
        x.wheel(0, 6, 0);
        x.sum(1, 0, 0);
        Due.is("two dice", x.pairs(1, 6, 6), 3);
        Due.is("0", Due.dice(x, 0, 6, 6), "0 1 1 2 2 3 | 0 2 3 4 5 7");
        Due.is("1", Due.dice(x, 1, 6, 6), "0 1 2 3 4 5 | 0 1 2 3 4 5");
        Due.is("2", Due.dice(x, 2, 6, 6), "0 2 3 4 5 7 | 0 1 1 2 2 3");
        x.wheel(2, 24, -3);
        Due.is("24 values by 4 and 6", x.pairs(2, 4, 6), 9);
        Due.is("in order", Due.dice(x, 0, 4, 6), "0 1 2 3 | -3 1 5 9 13 17");
        Due.is("in order", Due.dice(x, 8, 4, 6), "0 6 12 18 | -3 -2 -1 0 1 2");
        Due.is("24 values by 6 and 4", x.pairs(2, 6, 4), 9);
        Due.is("24 values by 5 and 5", x.pairs(2, 5, 5), 0);
        Due.is("none are there then", x.count(4), 0);
        x.wheel(3, 1, 4);
        Due.is("one value", x.pairs(3, 6, 5), 1);
        Due.is("one value", Due.dice(x, 0, 6, 5), "0 0 0 0 0 0 | 4 4 4 4 4");
        Due.is("1 and 1", x.pairs(3, 1, 1), 1);
        x.coin(4, 1, 2);
        Due.is("a coin by 2 and 1", x.pairs(4, 2, 1), 1);
        Due.is("a coin by 2 and 1", Due.dice(x, 0, 2, 1), "0 1 | 0");
        Due.is("a coin by 2 and 2", x.pairs(4, 2, 2), 2);
        Due.is("a coin by 2 and 2", Due.dice(x, 0, 2, 2), "0 0 | 0 1");
        Due.is("a coin by 2 and 2", Due.dice(x, 1, 2, 2), "0 1 | 0 0");
        x.wheel(5, 1, -1000);
        x.wheel(6, 1, 1000);
        x.mix(7, 5, 6, 1, 2);
        Due.is("widest", x.pairs(7, 2, 1), 1);
        Due.is("widest", Due.dice(x, 0, 2, 1), "0 2000 | -1000");
        int[][] wrong = {{9, 2, 2}, {16, 2, 2}, {-1, 2, 2}, {4, 0, 2}, {4, 7, 2}, {4, 2, 0}, {4, 2, 7}, {4, -1, 2}, {4, 2, HIGH}};
        for (int[] w : wrong) {
            Due.is("pairs" + java.util.Arrays.toString(w), x.pairs(w[0], w[1], w[2]), -1);
        }
        Due.is("those that there were", x.count(4), 1);
        Due.is("those that there were", Due.dice(x, 0, 2, 1), "0 2000 | -1000");
        x.wheel(7, 3, 1);
        Due.is("they stay, whatever the laws are now", Due.dice(x, 0, 2, 1), "0 2000 | -1000");
    }

    // 34
    private static void face() {
        ChanceBench x = new ChanceBench();
        x.wheel(0, 6, 1);
        x.pairs(0, 2, 3);
        Due.is("0, 0, 1", x.face(0, 0, 1), 1);
        Due.is("0, 1, 2", x.face(0, 1, 2), 5);
        Due.is("1, 0, 1", x.face(1, 0, 1), 3);
        Due.is("1, 1, 0", x.face(1, 1, 0), 1);
        int[][] none = {{2, 0, 0}, {-1, 0, 0}, {0, 2, 0}, {0, -1, 0}, {0, 0, 2}, {0, 1, 3}, {0, 0, -1}, {0, 1, -1}, {HIGH, 0, 0}, {0, HIGH, 0}, {0, 0, HIGH}, {LOW, LOW, LOW}};
        for (int[] n : none) {
            Due.thrown("face" + java.util.Arrays.toString(n), () -> x.face(n[0], n[1], n[2]));
        }
        x.pairs(0, 5, 5);
        Due.thrown("no pairs", () -> x.face(0, 0, 0));
    }

    // 35
    private static void beats() {
        ChanceBench x = new ChanceBench();
        x.wheel(0, 3, 1);
        Due.put(x, 1, 2, 1, 1, 3);
        Due.is("beats", fraction(x.beats(0, 1, 0), x.beats(0, 1, 1)), "1/12");
        Due.is("the other way", fraction(x.beats(1, 0, 0), x.beats(1, 0, 1)), "7/12");
        Due.is("itself", fraction(x.beats(0, 0, 0), x.beats(0, 0, 1)), "1/3");
        x.wheel(2, 1, 9);
        Due.is("always", fraction(x.beats(2, 0, 0), x.beats(2, 0, 1)), "1/1");
        Due.is("never", fraction(x.beats(0, 2, 0), x.beats(0, 2, 1)), "0/1");
        Due.thrown("what 2", () -> x.beats(0, 1, 2));
        Due.thrown("no law", () -> x.beats(0, 9, 0));
        Due.thrown("no law", () -> x.beats(9, 0, 0));
        Due.thrown("no slot", () -> x.beats(0, 16, 0));
    }

    // 36
    private static void ring() {
        ChanceBench x = new ChanceBench();
        Due.put(x, 1, 2, 1, 1, 0, 1, 0, 0, 0, 0, 1);
        Due.put(x, 2, 1, 1, 1, 0, 0, 0, 0, 1, 0, 1);
        Due.put(x, 3, 3, 1, 1, 0, 1, 0, 1);
        Due.is("2 4 9 beats 1 6 8", x.beats(1, 2, 0) + "/" + x.beats(1, 2, 1), "5/9");
        ringIs(x, "a ring", 5, 9, 1, 1, 2, 3);
        ringIs(x, "the other way", 4, 9, 0, 3, 2, 1);
        ringIs(x, "two", 4, 9, 0, 1, 2);
        ringIs(x, "one", 1, 3, 0, 1);
        ringIs(x, "16", 1, 3, 0, 1, 2, 3, 1, 2, 3, 1, 2, 3, 1, 2, 3, 1, 2, 3, 3);
        x.wheel(4, 2, 0);
        x.wheel(5, 1, 1);
        x.wheel(6, 1, 0);
        x.wheel(7, 2, 0);
        x.times(7, 7, 2, -1);
        Due.is("just a half", x.beats(5, 4, 0) + "/" + x.beats(5, 4, 1), "1/2");
        ringIs(x, "5 4: a half, and none", 0, 1, 0, 5, 4);
        ringIs(x, "4 7", 1, 4, 0, 4, 7);
        x.wheel(8, 1, 2);
        Due.put(x, 9, 1, 2, 1, 1);
        Due.put(x, 10, 0, 4, 1, 1);
        ringIs(x, "each just a half", 1, 2, 0, 8, 9, 10);
        ringOfNone(x, 0);
        ringOfNone(x, 0, new int[17]);
        ringOfNone(x, 0, 1, 2, 11);
        ringOfNone(x, 0, 11, 1, 2);
        ringOfNone(x, 0, 16);
        ringOfNone(x, 2, 255, 1);
        ringOfNone(x, 3, 1, 2, 3);
        ringOfNone(x, -1, 1, 2, 3);
        int[] many = new int[17];
        java.util.Arrays.fill(many, 1);
        ringOfNone(x, 2, many);
        nearRing();
    }

    private static void ringIs(ChanceBench x, String label, long upper, long lower, long all, int... slots) {
        long[] due = {upper, lower, all};
        for (int what = 0; what < 3; what++) {
            Due.tape(x, slots);
            Due.is("ring " + label + ", " + what, x.ring(what), due[what]);
            Due.is("the tape is empty then", x.count(1), 0);
        }
    }

    private static void ringOfNone(ChanceBench x, int what, int... slots) {
        Due.tape(x, slots);
        Due.is("ring of none " + java.util.Arrays.toString(slots) + ", " + what, x.ring(what), -1);
        Due.is("the tape is empty then", x.count(1), 0);
    }

    /** Two chances of a ring that differ by some 2^-79 alone: the lesser one is told, wherever it stands. */
    private static void nearRing() {
        ChanceBench x = new ChanceBench();
        x.coin(0, 347159, 1040158);
        x.coin(1, 391329, 1047469);
        x.coin(2, 353383, 1040709);
        x.coin(3, 402786, 1048099);
        long[] first = {347159L * (1047469 - 391329), 1040158L * 1047469};
        long[] third = {353383L * (1048099 - 402786), 1040709L * 1048099};
        Due.is("the first", fraction(x.beats(0, 1, 0), x.beats(0, 1, 1)), reduced(first[0], first[1]));
        Due.is("the third", fraction(x.beats(2, 3, 0), x.beats(2, 3, 1)), reduced(third[0], third[1]));
        java.math.BigInteger across = java.math.BigInteger.valueOf(first[0]).multiply(java.math.BigInteger.valueOf(third[1]))
                .subtract(java.math.BigInteger.valueOf(third[0]).multiply(java.math.BigInteger.valueOf(first[1])));
        Due.is("they are near", across.abs().longValueExact(), 2);
        int lesser = across.signum() < 0 ? 0 : 2;
        for (int turn = 0; turn < 4; turn++) {
            int[] ring = {turn, (turn + 1) % 4, (turn + 2) % 4, (turn + 3) % 4};
            ringIs(x, "near, from " + turn, x.beats(lesser, lesser + 1, 0), x.beats(lesser, lesser + 1, 1), 0, ring);
        }
    }

    // 37
    private static void count() {
        ChanceBench x = new ChanceBench();
        x.wheel(0, 2, 0);
        x.wheel(15, 2, 0);
        x.wheel(0, 6, 0);
        x.wheel(1, 2, 0);
        x.undo();
        x.feed(1, 2, 3, 4, 5);
        x.end(7);
        x.pairs(0, 2, 3);
        x.joint(0, 15, 1);
        int[] due = {2, 7, 3, 1, 2, 6};
        for (int what = 0; what < due.length; what++) {
            Due.is("count(" + what + ")", x.count(what), due[what]);
        }
        Due.is("count(6)", x.count(6), -1);
        Due.is("count(-1)", x.count(-1), -1);
        Due.is("count(least)", x.count(LOW), -1);
        Due.is("count(most)", x.count(HIGH), -1);
    }

    /** "A call that throws changes nothing." */
    private static void throwingChangesNothing() {
        ChanceBench x = new ChanceBench();
        x.wheel(0, 6, 1);
        x.wheel(1, 2, 1);
        x.above(1, 0);
        x.joint(0, 1, 0);
        x.pairs(0, 2, 3);
        Due.tape(x, 0x40);
        x.draw(0);
        Due.tape(x, 1, 2, 3);
        String ahead = state(x);
        Due.thrown("value", () -> x.value(0, 6));
        Due.thrown("chance", () -> x.chance(0, 1, 2));
        Due.thrown("below", () -> x.below(9, 1, 0));
        Due.thrown("mean", () -> x.mean(0, 2));
        Due.thrown("variance", () -> x.variance(0, 2));
        Due.thrown("apart", () -> x.apart(0, 1, 2));
        Due.thrown("far", () -> x.far(0, 1, 2));
        Due.thrown("pair", () -> x.pair(1, 1, 2));
        Due.thrown("open", () -> x.open(0, 61));
        Due.thrown("leaf", () -> x.leaf(0, 1, 61) ? 1 : 0);
        Due.thrown("lots", () -> x.lots(0, 3, 2));
        Due.thrown("draw", () -> x.draw(9));
        Due.thrown("face", () -> x.face(2, 0, 0));
        Due.thrown("beats", () -> x.beats(0, 1, 2));
        Due.is("nothing was changed", state(x), ahead);
    }

    private static String state(ChanceBench x) {
        StringBuilder text = new StringBuilder();
        for (int what = 0; what <= 5; what++) {
            text.append(x.count(what)).append(' ');
        }
        text.append(x.bound()).append(' ').append(x.taken()).append(' ').append(Due.law(x, 0)).append(' ').append(Due.law(x, 1));
        text.append(Due.dice(x, 0, 2, 3)).append(Due.dice(x, 1, 2, 3));
        for (int v = 1; v <= 6; v++) {
            text.append(' ').append(x.pair(v, 1, 0)).append('/').append(x.pair(v, 1, 1));
        }
        return text.toString();
    }
}
