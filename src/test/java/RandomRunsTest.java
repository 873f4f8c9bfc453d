import java.util.Random;
import java.util.function.LongSupplier;

/** Long runs of calls, made up with a fixed seed, that must be answered as NaiveBench answers them. */
public final class RandomRunsTest {
    private static final int[] EDGES = {
        Integer.MIN_VALUE, Integer.MIN_VALUE + 1, -2001, -2000, -1001, -1000, -101, -2, -1, 0, 1, 2, 3, 5, 6, 7, 9, 10, 11,
        15, 16, 17, 20, 21, 24, 25, 40, 41, 60, 61, 100, 101, 180, 181, 200, 201, 999, 1000, 1001, 1999, 2000, 2001,
        1048575, 1048576, 1048577, Integer.MAX_VALUE - 1, Integer.MAX_VALUE
    };

    private static final int MOST_CALLS = 512;

    private final Random chance;
    private final ChanceBench bench = new ChanceBench();
    private final NaiveBench naive = new NaiveBench();
    private final int run;
    private final int slots;
    private final int wild;
    private int made = 0;

    private RandomRunsTest(int run) {
        this.run = run;
        chance = new Random(run * 7919L + 17);
        slots = 2 + chance.nextInt(5);
        wild = chance.nextInt(4) == 0 ? 5 : 40;
    }

    public static void main(String[] args) {
        int runs = args.length > 0 ? Integer.parseInt(args[0]) : 900;
        for (int run = 0; run < runs; run++) {
            new RandomRunsTest(run).go();
        }
        Due.end("RandomRunsTest");
    }

    private void go() {
        int calls = 40 + chance.nextInt(300);
        for (int k = 0; k < calls; k++) {
            int kind = chance.nextInt(20);
            if (kind < 7) {
                act();
            } else if (kind < 9) {
                fillTape();
            } else if (kind < 18) {
                ask(chance.nextInt(25));
            } else {
                state();
            }
        }
        for (int a = 0; a < 16; a++) {
            int slot = a;
            same("values(" + a + ")", () -> bench.values(slot), () -> naive.values(slot));
            for (int k = 0; k < naive.values(a); k++) {
                int at = k;
                same("value(" + a + ", " + k + ")", () -> bench.value(slot, at), () -> naive.value(slot, at));
                int v = naive.value(a, k);
                same("chance(" + a + ", " + v + ", 0)", () -> bench.chance(slot, v, 0), () -> naive.chance(slot, v, 0));
                same("chance(" + a + ", " + v + ", 1)", () -> bench.chance(slot, v, 1), () -> naive.chance(slot, v, 1));
            }
        }
    }

    /** What an object answers behind its 512th call is free, so neither is asked then. */
    private void same(String call, LongSupplier ofBench, LongSupplier ofNaive) {
        if (made >= MOST_CALLS) {
            return;
        }
        made++;
        Due.is("run " + run + ": " + call, Due.told(ofBench), Due.told(ofNaive));
    }

    private static long bit(boolean b) {
        return b ? 1 : 0;
    }

    /** A number of low to high, or now and then one at an edge, or any. */
    private int some(int low, int high) {
        int way = chance.nextInt(wild);
        if (way == 0) {
            return EDGES[chance.nextInt(EDGES.length)];
        }
        if (way == 1 && chance.nextInt(4) == 0) {
            return chance.nextInt();
        }
        if (way == 2) {
            return chance.nextBoolean() ? low : high;
        }
        return low + chance.nextInt(high - low + 1);
    }

    private int slot() {
        return some(0, slots);
    }

    private int what() {
        return some(0, 1);
    }

    private int valueOf(int a) {
        int n = naive.values(a);
        return n > 0 && chance.nextInt(6) > 0 ? naive.value(a, chance.nextInt(n)) + (chance.nextInt(5) == 0 ? 1 : 0) : some(-20, 20);
    }

    private void act() {
        int s = slot();
        int a = slot();
        int b = slot();
        switch (chance.nextInt(9)) {
            case 0: {
                int from = some(-12, 12);
                int step = chance.nextInt(3) > 0 ? 1 : some(1, 100);
                same("sheet(" + s + ", " + from + ", " + step + ")", () -> bit(bench.sheet(s, from, step)), () -> bit(naive.sheet(s, from, step)));
                break;
            }
            case 1: {
                int n = some(1, chance.nextInt(3) == 0 ? 26 : 6);
                int from = some(-6, 6);
                same("wheel(" + s + ", " + n + ", " + from + ")", () -> bit(bench.wheel(s, n, from)), () -> bit(naive.wheel(s, n, from)));
                break;
            }
            case 2: {
                int marked = some(0, 20);
                int others = some(0, 20);
                int draws = some(1, 10);
                boolean back = chance.nextBoolean();
                same("urn(" + s + ", " + marked + ", " + others + ", " + draws + ", " + back + ")",
                        () -> bit(bench.urn(s, marked, others, draws, back)), () -> bit(naive.urn(s, marked, others, draws, back)));
                break;
            }
            case 3: {
                int q = chance.nextBoolean() ? some(1, 12) : some(1, 1048576);
                int p = q > 0 ? some(0, Math.min(q, 2000000)) : some(0, 1);
                same("coin(" + s + ", " + p + ", " + q + ")", () -> bit(bench.coin(s, p, q)), () -> bit(naive.coin(s, p, q)));
                break;
            }
            case 4:
                same("sum(" + s + ", " + a + ", " + b + ")", () -> bit(bench.sum(s, a, b)), () -> bit(naive.sum(s, a, b)));
                break;
            case 5: {
                int k = chance.nextInt(4) == 0 ? some(-1000, 1000) : some(-3, 3);
                int add = chance.nextInt(4) == 0 ? some(-2000, 2000) : some(-10, 10);
                same("times(" + s + ", " + a + ", " + k + ", " + add + ")", () -> bit(bench.times(s, a, k, add)), () -> bit(naive.times(s, a, k, add)));
                break;
            }
            case 6: {
                int what = some(0, 2);
                same("of(" + s + ", " + a + ", " + b + ", " + what + ")", () -> bit(bench.of(s, a, b, what)), () -> bit(naive.of(s, a, b, what)));
                break;
            }
            case 7: {
                int q = chance.nextBoolean() ? some(1, 8) : some(1, 1000);
                int p = q > 0 ? some(0, Math.min(q, 2000)) : some(0, 1);
                same("mix(" + s + ", " + a + ", " + b + ", " + p + ", " + q + ")", () -> bit(bench.mix(s, a, b, p, q)), () -> bit(naive.mix(s, a, b, p, q)));
                break;
            }
            default: {
                int low = valueOf(a);
                int high = chance.nextInt(4) == 0 ? valueOf(a) : 1000;
                same("given(" + s + ", " + a + ", " + low + ", " + high + ")", () -> bit(bench.given(s, a, low, high)), () -> bit(naive.given(s, a, low, high)));
            }
        }
    }

    private int word() {
        switch (chance.nextInt(5)) {
            case 0:
                return chance.nextInt();
            case 1:
                return chance.nextInt() & 0x03030303;
            case 2:
                return chance.nextInt() & 0x00010101;
            case 3:
                return -1;
            default:
                return chance.nextInt(slots) << 24 | chance.nextInt(slots) << 16 | chance.nextInt(slots) << 8 | chance.nextInt(slots);
        }
    }

    private void fillTape() {
        int feeds = chance.nextInt(8) == 0 ? 11 : 1 + chance.nextInt(2);
        for (int k = 0; k < feeds; k++) {
            int a = word();
            int b = word();
            int c = word();
            int d = word();
            int e = word();
            same("feed(" + a + ", " + b + ", " + c + ", " + d + ", " + e + ")", () -> bench.feed(a, b, c, d, e), () -> naive.feed(a, b, c, d, e));
        }
        if (chance.nextInt(5) > 0) {
            int n = some(0, 24);
            same("end(" + n + ")", () -> bit(bench.end(n)), () -> bit(naive.end(n)));
        }
    }

    private void state() {
        switch (chance.nextInt(4)) {
            case 0:
                same("undo()", () -> bit(bench.undo()), () -> bit(naive.undo()));
                break;
            case 1:
                same("redo()", () -> bit(bench.redo()), () -> bit(naive.redo()));
                break;
            default: {
                int what = some(0, 5);
                same("count(" + what + ")", () -> bench.count(what), () -> naive.count(what));
            }
        }
    }

    private void ask(int which) {
        int a = slot();
        int b = slot();
        int what = what();
        int v = valueOf(a);
        int w = valueOf(b);
        String both = "(" + a + ", " + b + ")";
        String bothWhat = "(" + a + ", " + b + ", " + what + ")";
        switch (which) {
            case 0:
                same("values(" + a + ")", () -> bench.values(a), () -> naive.values(a));
                break;
            case 1: {
                int k = some(0, 8);
                same("value(" + a + ", " + k + ")", () -> bench.value(a, k), () -> naive.value(a, k));
                break;
            }
            case 2:
                same("chance(" + a + ", " + v + ", " + what + ")", () -> bench.chance(a, v, what), () -> naive.chance(a, v, what));
                break;
            case 3:
                same("below(" + a + ", " + v + ", " + what + ")", () -> bench.below(a, v, what), () -> naive.below(a, v, what));
                break;
            case 4:
                same("mean(" + a + ", " + what + ")", () -> bench.mean(a, what), () -> naive.mean(a, what));
                break;
            case 5:
                same("variance(" + a + ", " + what + ")", () -> bench.variance(a, what), () -> naive.variance(a, what));
                break;
            case 6:
                same("apart" + bothWhat, () -> bench.apart(a, b, what), () -> naive.apart(a, b, what));
                break;
            case 7:
                same("far" + bothWhat, () -> bench.far(a, b, what), () -> naive.far(a, b, what));
                break;
            case 8:
            case 9:
                same("above" + both, () -> bench.above(a, b), () -> naive.above(a, b));
                same("bound()", bench::bound, naive::bound);
                break;
            case 10:
            case 11:
                spread(a, b);
                break;
            case 12: {
                int how = some(0, 1);
                same("joint(" + a + ", " + b + ", " + how + ")", () -> bench.joint(a, b, how), () -> naive.joint(a, b, how));
                break;
            }
            case 13:
            case 14:
                same("pair(" + v + ", " + w + ", " + what + ")", () -> bench.pair(v, w, what), () -> naive.pair(v, w, what));
                break;
            case 15: {
                int k = chance.nextBoolean() ? some(0, 8) : some(0, 60);
                same("open(" + a + ", " + k + ")", () -> bench.open(a, k), () -> naive.open(a, k));
                break;
            }
            case 16: {
                int k = chance.nextBoolean() ? some(0, 8) : some(0, 60);
                same("leaf(" + a + ", " + v + ", " + k + ")", () -> bit(bench.leaf(a, v, k)), () -> bit(naive.leaf(a, v, k)));
                break;
            }
            case 17: {
                int d = some(0, 40);
                same("lots(" + a + ", " + d + ", " + what + ")", () -> bench.lots(a, d, what), () -> naive.lots(a, d, what));
                break;
            }
            case 18:
            case 19:
                same("draw(" + a + ")", () -> bench.draw(a), () -> naive.draw(a));
                same("taken()", bench::taken, naive::taken);
                break;
            case 20:
            case 21:
                dice(a);
                break;
            case 22:
                same("beats" + bothWhat, () -> bench.beats(a, b, what), () -> naive.beats(a, b, what));
                break;
            default: {
                int of = some(0, 2);
                same("ring(" + of + ")", () -> bench.ring(of), () -> naive.ring(of));
            }
        }
    }

    /** Laws of one mean are rare, so a law is first held against its own mixture with its mirror, where it can be. */
    private void spread(int a, int b) {
        if (chance.nextBoolean()) {
            int high = naive.values(a) > 0 ? naive.value(a, naive.values(a) - 1) + naive.value(a, 0) : 0;
            same("times(" + b + ", " + a + ", -1, " + high + ")", () -> bit(bench.times(b, a, -1, high)), () -> bit(naive.times(b, a, -1, high)));
            same("mix(6, " + a + ", " + b + ", 1, 2)", () -> bit(bench.mix(6, a, b, 1, 2)), () -> bit(naive.mix(6, a, b, 1, 2)));
        }
        int first = chance.nextBoolean() ? 6 : a;
        int second = chance.nextBoolean() ? 6 : b;
        same("spread(" + first + ", " + second + ")", () -> bench.spread(first, second), () -> naive.spread(first, second));
        same("bound()", bench::bound, naive::bound);
    }

    /** A law is often made of two dice, so that there are pairs to be found. */
    private void dice(int a) {
        int n = some(1, 6);
        int m = some(1, 6);
        if (chance.nextInt(3) > 0) {
            die(6, Math.max(1, Math.min(6, n)));
            die(7, Math.max(1, Math.min(6, m)));
            same("sum(" + a + ", 6, 7)", () -> bit(bench.sum(a, 6, 7)), () -> bit(naive.sum(a, 6, 7)));
        }
        same("pairs(" + a + ", " + n + ", " + m + ")", () -> bench.pairs(a, n, m), () -> naive.pairs(a, n, m));
        for (int i = 0; i < Math.min(naive.count(4), 12); i++) {
            for (int k = 0; k < 12; k++) {
                int pair = i;
                int at = k;
                same("face(" + i + ", " + k / 6 + ", " + k % 6 + ")", () -> bench.face(pair, at / 6, at % 6), () -> naive.face(pair, at / 6, at % 6));
            }
        }
        int i = some(0, 3);
        int die = some(0, 1);
        int k = some(0, 5);
        same("face(" + i + ", " + die + ", " + k + ")", () -> bench.face(i, die, k), () -> naive.face(i, die, k));
    }

    /** Slot s gets a law of n faces of 0 to 7, by a sheet. */
    private void die(int s, int n) {
        int[] bytes = new int[8];
        boolean even = chance.nextInt(3) == 0;
        for (int k = 0; k < n; k++) {
            bytes[even ? k : chance.nextInt(8)]++;
        }
        int one = bytes[0] << 24 | bytes[1] << 16 | bytes[2] << 8 | bytes[3];
        int two = bytes[4] << 24 | bytes[5] << 16 | bytes[6] << 8 | bytes[7];
        same("end(0)", () -> bit(bench.end(0)), () -> bit(naive.end(0)));
        same("feed(" + one + ", " + two + ", 0, 0, 0)", () -> bench.feed(one, two, 0, 0, 0), () -> naive.feed(one, two, 0, 0, 0));
        same("sheet(" + s + ", 0, 1)", () -> bit(bench.sheet(s, 0, 1)), () -> bit(naive.sheet(s, 0, 1)));
    }
}
