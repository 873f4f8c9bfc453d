import java.math.BigInteger;
import java.util.ArrayList;
import java.util.List;
import java.util.Map;
import java.util.NoSuchElementException;
import java.util.TreeMap;
import java.util.TreeSet;

/**
 * The document once more, as slow and as plain as it can be: chances are fractions of great
 * numbers, every t is tried, dice are guessed. It shares no way of reckoning with ChanceBench.
 */
final class NaiveBench {
    static final int NONE = -1;

    static final class Frac implements Comparable<Frac> {
        static final Frac ZERO = new Frac(BigInteger.ZERO, BigInteger.ONE);
        static final Frac HALF = of(1, 2);
        final BigInteger upper;
        final BigInteger lower;

        Frac(BigInteger upper, BigInteger lower) {
            BigInteger g = upper.gcd(lower);
            this.upper = upper.divide(g);
            this.lower = lower.divide(g);
        }

        static Frac of(long upper, long lower) {
            return new Frac(BigInteger.valueOf(upper), BigInteger.valueOf(lower));
        }

        Frac plus(Frac o) {
            return new Frac(upper.multiply(o.lower).add(o.upper.multiply(lower)), lower.multiply(o.lower));
        }

        Frac minus(Frac o) {
            return plus(new Frac(o.upper.negate(), o.lower));
        }

        Frac by(Frac o) {
            return new Frac(upper.multiply(o.upper), lower.multiply(o.lower));
        }

        Frac abs() {
            return new Frac(upper.abs(), lower);
        }

        Frac least(Frac o) {
            return compareTo(o) <= 0 ? this : o;
        }

        boolean isZero() {
            return upper.signum() == 0;
        }

        @Override
        public int compareTo(Frac o) {
            return upper.multiply(o.lower).compareTo(o.upper.multiply(lower));
        }
    }

    private interface Joiner {
        long join(int v, int w);
    }

    private record Act(int slot, TreeMap<Integer, Frac> ahead, TreeMap<Integer, Frac> made) {
    }

    private final List<TreeMap<Integer, Frac>> slots = new ArrayList<>();
    private List<Integer> tape = new ArrayList<>();
    private final List<Act> done = new ArrayList<>();
    private final List<Act> undone = new ArrayList<>();
    private TreeMap<Integer, TreeMap<Integer, Frac>> joint = new TreeMap<>();
    private List<List<List<Integer>>> pairs = new ArrayList<>();
    private int bound = 5000;
    private int taken = 0;

    NaiveBench() {
        for (int s = 0; s < 16; s++) {
            slots.add(null);
        }
    }

    private TreeMap<Integer, Frac> lawIn(int a) {
        return a < 0 || a > 15 ? null : slots.get(a);
    }

    private TreeMap<Integer, Frac> law(int a) {
        if (lawIn(a) == null) {
            throw new NoSuchElementException();
        }
        return lawIn(a);
    }

    private static void add(TreeMap<Long, Frac> row, long v, Frac weight) {
        if (!weight.isZero()) {
            row.merge(v, weight, Frac::plus);
        }
    }

    private boolean act(int s, TreeMap<Long, Frac> row) {
        if (s < 0 || s > 15 || row.isEmpty() || row.size() > 24 || row.firstKey() < -1000 || row.lastKey() > 1000) {
            return false;
        }
        Frac total = Frac.ZERO;
        for (Frac weight : row.values()) {
            total = total.plus(weight);
        }
        TreeMap<Integer, Frac> law = new TreeMap<>();
        BigInteger whole = BigInteger.ONE;
        for (Map.Entry<Long, Frac> e : row.entrySet()) {
            Frac chance = new Frac(e.getValue().upper.multiply(total.lower), e.getValue().lower.multiply(total.upper));
            law.put((int) (long) e.getKey(), chance);
            whole = whole.multiply(chance.lower).divide(whole.gcd(chance.lower));
        }
        if (whole.compareTo(BigInteger.valueOf(1048576)) > 0) {
            return false;
        }
        done.add(new Act(s, slots.get(s), law));
        if (done.size() > 30) {
            done.remove(0);
        }
        undone.clear();
        slots.set(s, law);
        return true;
    }

    int feed(int a, int b, int c, int d, int e) {
        if (tape.size() + 20 > 200) {
            return NONE;
        }
        for (int number : new int[] {a, b, c, d, e}) {
            for (int k = 3; k >= 0; k--) {
                tape.add((int) Math.floorMod(Math.floorDiv((long) number, 1L << (8 * k)), 256L));
            }
        }
        return tape.size();
    }

    boolean end(int n) {
        if (n < 0 || n > tape.size()) {
            return false;
        }
        tape = new ArrayList<>(tape.subList(0, n));
        return true;
    }

    boolean sheet(int s, int from, int step) {
        TreeMap<Long, Frac> row = new TreeMap<>();
        for (int k = 0; k < tape.size(); k++) {
            add(row, from + (long) k * step, Frac.of(tape.get(k), 1));
        }
        tape.clear();
        return step >= 1 && step <= 100 && act(s, row);
    }

    boolean wheel(int s, int n, int from) {
        TreeMap<Long, Frac> row = new TreeMap<>();
        for (int k = 0; k < Math.min(n, 30); k++) {
            add(row, (long) from + k, Frac.of(1, 1));
        }
        return act(s, row);
    }

    boolean urn(int s, int marked, int others, int draws, boolean back) {
        if (marked < 0 || marked > 20 || others < 0 || others > 20 || marked + others == 0 || draws < 1 || draws > 10) {
            return false;
        }
        if (!back && draws > marked + others) {
            return false;
        }
        Frac[] sofar = {Frac.of(1, 1)};
        for (int drawn = 0; drawn < draws; drawn++) {
            Frac[] next = new Frac[drawn + 2];
            java.util.Arrays.fill(next, Frac.ZERO);
            for (int k = 0; k <= drawn; k++) {
                int markedLeft = back ? marked : Math.max(0, marked - k);
                int left = back ? marked + others : marked + others - drawn;
                next[k + 1] = next[k + 1].plus(sofar[k].by(Frac.of(markedLeft, left)));
                next[k] = next[k].plus(sofar[k].by(Frac.of(left - markedLeft, left)));
            }
            sofar = next;
        }
        TreeMap<Long, Frac> row = new TreeMap<>();
        for (int k = 0; k <= draws; k++) {
            add(row, k, sofar[k]);
        }
        return act(s, row);
    }

    boolean coin(int s, int p, int q) {
        if (q < 1 || q > 1048576 || p < 0 || p > q) {
            return false;
        }
        TreeMap<Long, Frac> row = new TreeMap<>();
        add(row, 1, Frac.of(p, q));
        add(row, 0, Frac.of(q - p, q));
        return act(s, row);
    }

    private boolean both(int s, int a, int b, Joiner joiner) {
        if (lawIn(a) == null || lawIn(b) == null) {
            return false;
        }
        TreeMap<Long, Frac> row = new TreeMap<>();
        law(a).forEach((v, p) -> law(b).forEach((w, q) -> add(row, joiner.join(v, w), p.by(q))));
        return act(s, row);
    }

    boolean sum(int s, int a, int b) {
        return both(s, a, b, (v, w) -> (long) v + w);
    }

    boolean times(int s, int a, int k, int add) {
        if (lawIn(a) == null || k < -1000 || k > 1000 || add < -2000 || add > 2000) {
            return false;
        }
        TreeMap<Long, Frac> row = new TreeMap<>();
        law(a).forEach((v, p) -> add(row, (long) k * v + add, p));
        return act(s, row);
    }

    boolean of(int s, int a, int b, int what) {
        switch (what) {
            case 0:
                return both(s, a, b, (v, w) -> v < w ? v : w);
            case 1:
                return both(s, a, b, (v, w) -> v > w ? v : w);
            case 2:
                return both(s, a, b, (v, w) -> w > 0 ? v : w < 0 ? -v : 0);
            default:
                return false;
        }
    }

    boolean mix(int s, int a, int b, int p, int q) {
        if (lawIn(a) == null || lawIn(b) == null || q < 1 || q > 1000 || p < 0 || p > q) {
            return false;
        }
        TreeMap<Long, Frac> row = new TreeMap<>();
        law(a).forEach((v, c) -> add(row, v, c.by(Frac.of(p, q))));
        law(b).forEach((v, c) -> add(row, v, c.by(Frac.of(q - p, q))));
        return act(s, row);
    }

    boolean given(int s, int a, int low, int high) {
        if (lawIn(a) == null) {
            return false;
        }
        TreeMap<Long, Frac> row = new TreeMap<>();
        law(a).forEach((v, c) -> add(row, v, v >= low && v <= high ? c : Frac.ZERO));
        return act(s, row);
    }

    boolean undo() {
        if (done.isEmpty()) {
            return false;
        }
        Act act = done.remove(done.size() - 1);
        undone.add(act);
        slots.set(act.slot(), act.ahead());
        return true;
    }

    boolean redo() {
        if (undone.isEmpty()) {
            return false;
        }
        Act act = undone.remove(undone.size() - 1);
        done.add(act);
        slots.set(act.slot(), act.made());
        return true;
    }

    int values(int a) {
        return lawIn(a) == null ? 0 : law(a).size();
    }

    int value(int a, int k) {
        List<Integer> all = new ArrayList<>(law(a).keySet());
        if (k < 0 || k >= all.size()) {
            throw new NoSuchElementException();
        }
        return all.get(k);
    }

    private static long told(Frac f, int what) {
        if (what == 0) {
            return f.upper.longValueExact();
        }
        if (what == 1) {
            return f.lower.longValueExact();
        }
        throw new NoSuchElementException();
    }

    private static Frac chanceOf(TreeMap<Integer, Frac> law, int v) {
        return law.getOrDefault(v, Frac.ZERO);
    }

    private static Frac atMost(TreeMap<Integer, Frac> law, int t) {
        Frac total = Frac.ZERO;
        for (Frac chance : law.headMap(t, true).values()) {
            total = total.plus(chance);
        }
        return total;
    }

    private static Frac meanOf(TreeMap<Integer, Frac> law) {
        Frac total = Frac.ZERO;
        for (Map.Entry<Integer, Frac> e : law.entrySet()) {
            total = total.plus(e.getValue().by(Frac.of(e.getKey(), 1)));
        }
        return total;
    }

    long chance(int a, int v, int what) {
        return told(chanceOf(law(a), v), what);
    }

    long below(int a, int t, int what) {
        return told(atMost(law(a), t), what);
    }

    long mean(int a, int what) {
        return told(meanOf(law(a)), what);
    }

    long variance(int a, int what) {
        Frac mean = meanOf(law(a));
        Frac total = Frac.ZERO;
        for (Map.Entry<Integer, Frac> e : law(a).entrySet()) {
            Frac off = Frac.of(e.getKey(), 1).minus(mean);
            total = total.plus(off.by(off).by(e.getValue()));
        }
        return told(total, what);
    }

    private static TreeSet<Integer> valuesOfBoth(TreeMap<Integer, Frac> one, TreeMap<Integer, Frac> other) {
        TreeSet<Integer> all = new TreeSet<>(one.keySet());
        all.addAll(other.keySet());
        return all;
    }

    long apart(int a, int b, int what) {
        law(a);
        law(b);
        Frac total = Frac.ZERO;
        for (int v : valuesOfBoth(law(a), law(b))) {
            total = total.plus(chanceOf(law(a), v).minus(chanceOf(law(b), v)).abs());
        }
        return told(total.by(Frac.HALF), what);
    }

    /** Every t of -1001 to 1001 is tried; the sums are kept from one t to the next, to save time alone. */
    long far(int a, int b, int what) {
        TreeMap<Integer, Frac> one = law(a);
        TreeMap<Integer, Frac> other = law(b);
        Frac total = Frac.ZERO;
        Frac off = Frac.ZERO;
        for (int t = -1001; t <= 1001; t++) {
            if (one.containsKey(t) || other.containsKey(t)) {
                off = atMost(one, t).minus(atMost(other, t)).abs();
            }
            if (!off.isZero()) {
                total = total.plus(off);
            }
        }
        return told(total, what);
    }

    int above(int a, int b) {
        if (lawIn(a) == null || lawIn(b) == null) {
            return NONE;
        }
        Frac one = Frac.of(1, 1);
        for (int t = -1001; t <= 1001; t++) {
            Frac ofA = one.minus(atMost(law(a), t - 1));
            Frac ofB = one.minus(atMost(law(b), t - 1));
            if (ofA.compareTo(ofB) < 0) {
                bound = t;
                return 0;
            }
        }
        return 1;
    }

    private static Frac over(TreeMap<Integer, Frac> law, int t) {
        Frac total = Frac.ZERO;
        for (Map.Entry<Integer, Frac> e : law.tailMap(t, false).entrySet()) {
            total = total.plus(e.getValue().by(Frac.of(e.getKey() - t, 1)));
        }
        return total;
    }

    int spread(int a, int b) {
        if (lawIn(a) == null || lawIn(b) == null) {
            return NONE;
        }
        if (meanOf(law(a)).compareTo(meanOf(law(b))) != 0) {
            return 2;
        }
        for (int t = -1001; t <= 1001; t++) {
            if (over(law(a), t).compareTo(over(law(b), t)) > 0) {
                bound = t;
                return 0;
            }
        }
        return 1;
    }

    int bound() {
        return bound;
    }

    int joint(int a, int b, int how) {
        if (lawIn(a) == null || lawIn(b) == null || (how != 0 && how != 1)) {
            return NONE;
        }
        joint = new TreeMap<>();
        TreeMap<Integer, Frac> left = new TreeMap<>(law(a));
        TreeMap<Integer, Frac> right = new TreeMap<>(law(b));
        if (how == 0) {
            for (int v : law(a).keySet()) {
                if (law(b).containsKey(v)) {
                    give(left, v, right, v);
                }
            }
        }
        while (!left.isEmpty() && !right.isEmpty()) {
            give(left, left.firstKey(), right, right.firstKey());
        }
        return count(5);
    }

    private void give(TreeMap<Integer, Frac> left, int v, TreeMap<Integer, Frac> right, int w) {
        Frac lesser = left.get(v).least(right.get(w));
        joint.computeIfAbsent(v, k -> new TreeMap<>()).put(w, lesser);
        takeOff(left, v, lesser);
        takeOff(right, w, lesser);
    }

    private static void takeOff(TreeMap<Integer, Frac> row, int v, Frac much) {
        Frac rest = row.get(v).minus(much);
        if (rest.isZero()) {
            row.remove(v);
        } else {
            row.put(v, rest);
        }
    }

    long pair(int v, int w, int what) {
        return told(joint.getOrDefault(v, new TreeMap<>()).getOrDefault(w, Frac.ZERO), what);
    }

    /** Digit k of a chance behind the point; digit 0 is what stands ahead of it. */
    private static boolean digit(Frac chance, int k) {
        return chance.upper.shiftLeft(k).divide(chance.lower).testBit(0);
    }

    private static List<Integer> leaves(TreeMap<Integer, Frac> law, int k) {
        List<Integer> all = new ArrayList<>();
        for (Map.Entry<Integer, Frac> e : law.entrySet()) {
            if (digit(e.getValue(), k)) {
                all.add(e.getKey());
            }
        }
        return all;
    }

    private static int openAt(TreeMap<Integer, Frac> law, int k) {
        return (k == 0 ? 1 : 2 * openAt(law, k - 1)) - leaves(law, k).size();
    }

    private static void needDepth(int k, int most) {
        if (k < 0 || k > most) {
            throw new NoSuchElementException();
        }
    }

    int open(int a, int k) {
        law(a);
        needDepth(k, 60);
        return openAt(law(a), k);
    }

    boolean leaf(int a, int v, int k) {
        law(a);
        needDepth(k, 60);
        return leaves(law(a), k).contains(v);
    }

    /** By where one ends: a leaf of depth k is met with chance 1 / 2^k. */
    long lots(int a, int d, int what) {
        law(a);
        needDepth(d, 40);
        Frac total = Frac.ZERO;
        for (int k = 0; k <= d; k++) {
            total = total.plus(Frac.of((long) k * leaves(law(a), k).size(), 1L << k));
        }
        total = total.plus(Frac.of((long) d * openAt(law(a), d), 1L << d));
        return told(total, what);
    }

    int draw(int a) {
        TreeMap<Integer, Frac> law = law(a);
        StringBuilder bits = new StringBuilder();
        for (int b : tape) {
            bits.append(Integer.toBinaryString(256 + b).substring(1));
        }
        tape.clear();
        int u = 0;
        taken = 0;
        if (law.size() == 1) {
            return law.firstKey();
        }
        for (int k = 0; k < bits.length(); k++) {
            taken++;
            int number = 2 * u + (bits.charAt(k) - '0');
            List<Integer> leaves = leaves(law, k + 1);
            if (number < leaves.size()) {
                return leaves.get(number);
            }
            u = number - leaves.size();
        }
        return 5000;
    }

    int taken() {
        return taken;
    }

    int pairs(int a, int n, int m) {
        if (lawIn(a) == null || n < 1 || n > 6 || m < 1 || m > 6) {
            return NONE;
        }
        pairs = new ArrayList<>();
        TreeMap<Integer, Integer> sums = new TreeMap<>();
        for (Map.Entry<Integer, Frac> e : law(a).entrySet()) {
            Frac often = e.getValue().by(Frac.of((long) n * m, 1));
            if (!often.lower.equals(BigInteger.ONE)) {
                return 0;
            }
            sums.put(e.getKey(), often.upper.intValueExact());
        }
        List<Integer> first = new ArrayList<>();
        first.add(0);
        guess(first, n, m, sums);
        return pairs.size();
    }

    /** All first dice are tried whose faces, with the least one of the second, are values. */
    private void guess(List<Integer> first, int n, int m, TreeMap<Integer, Integer> sums) {
        if (first.size() == n) {
            List<Integer> second = otherDie(first, m, new TreeMap<>(sums));
            if (second != null) {
                pairs.add(List.of(new ArrayList<>(first), second));
            }
            return;
        }
        for (int v : sums.keySet()) {
            int face = v - sums.firstKey();
            if (face >= first.get(first.size() - 1)) {
                first.add(face);
                guess(first, n, m, sums);
                first.remove(first.size() - 1);
            }
        }
    }

    private static List<Integer> otherDie(List<Integer> first, int m, TreeMap<Integer, Integer> left) {
        List<Integer> second = new ArrayList<>();
        while (!left.isEmpty()) {
            int face = left.firstKey();
            second.add(face);
            for (int x : first) {
                Integer often = left.get(x + face);
                if (often == null) {
                    return null;
                }
                if (often == 1) {
                    left.remove(x + face);
                } else {
                    left.put(x + face, often - 1);
                }
            }
        }
        return second.size() == m ? second : null;
    }

    int face(int i, int die, int k) {
        if (i < 0 || i >= pairs.size() || die < 0 || die > 1 || k < 0 || k >= pairs.get(i).get(die).size()) {
            throw new NoSuchElementException();
        }
        return pairs.get(i).get(die).get(k);
    }

    private static Frac greater(TreeMap<Integer, Frac> one, TreeMap<Integer, Frac> other) {
        Frac total = Frac.ZERO;
        for (Map.Entry<Integer, Frac> e : one.entrySet()) {
            total = total.plus(e.getValue().by(atMost(other, e.getKey() - 1)));
        }
        return total;
    }

    long beats(int a, int b, int what) {
        law(a);
        return told(greater(law(a), law(b)), what);
    }

    long ring(int what) {
        List<Integer> slotsOfRing = tape;
        tape = new ArrayList<>();
        int n = slotsOfRing.size();
        if (n == 0 || n > 16 || what < 0 || what > 2) {
            return NONE;
        }
        for (int s : slotsOfRing) {
            if (lawIn(s) == null) {
                return NONE;
            }
        }
        Frac least = null;
        boolean all = true;
        for (int k = 0; k < n; k++) {
            Frac f = greater(law(slotsOfRing.get(k)), law(slotsOfRing.get((k + 1) % n)));
            least = least == null ? f : least.least(f);
            all = all && f.compareTo(Frac.HALF) > 0;
        }
        return what == 2 ? (all ? 1 : 0) : told(least, what);
    }

    int count(int what) {
        switch (what) {
            case 0:
                return (int) slots.stream().filter(law -> law != null).count();
            case 1:
                return tape.size();
            case 2:
                return done.size();
            case 3:
                return undone.size();
            case 4:
                return pairs.size();
            case 5:
                return joint.values().stream().mapToInt(TreeMap::size).sum();
            default:
                return NONE;
        }
    }
}
