import java.util.NoSuchElementException;

/**
 * A bench for laws of chance, all exact. The numbers stay whole: a chance is a weight by the
 * whole of its law, and two laws are compared in parts of the product of their wholes, which
 * is 2^40 at most, so that a long has room for every sum that is taken here.
 */
public final class ChanceBench {
    public static final int NONE = -1;

    private static final int SLOTS = 16;
    private static final int MOST_VALUES = 24;
    private static final int FARTHEST = 1000;
    private static final int MOST_WHOLE = 1048576;
    private static final int NOTHING = 5000;
    private static final int MOST_STEP = 100;
    private static final int MOST_BALLS = 20;
    private static final int MOST_DRAWS = 10;
    private static final int MOST_FACTOR = 1000;
    private static final int MOST_ADDED = 2000;
    private static final int MOST_PARTS = 1000;
    private static final int DEEPEST = 60;
    private static final int MOST_LOTS = 40;
    private static final int MOST_IN_RING = 16;
    private static final int LESSER = 0;
    private static final int GREATER = 1;
    private static final int SIGNED = 2;
    private static final int SUM = 3;

    private final Shelf shelf = new Shelf();
    private final Tape tape = new Tape();
    private final Maker maker = new Maker();
    private final Difference difference = new Difference();
    private final Joint jointLaw = new Joint();
    private final Tree tree = new Tree();
    private final Dice dice = new Dice();
    private int latestBound = NOTHING;
    private int latestTaken = 0;

    public ChanceBench() {
    }

    public int feed(int a, int b, int c, int d, int e) {
        if (!tape.hasRoom()) {
            return NONE;
        }
        tape.write(a);
        tape.write(b);
        tape.write(c);
        tape.write(d);
        tape.write(e);
        return tape.length();
    }

    public boolean end(int n) {
        return tape.cut(n);
    }

    public boolean sheet(int s, int from, int step) {
        maker.clear();
        if (step >= 1 && step <= MOST_STEP) {
            for (int k = 0; k < tape.length(); k++) {
                maker.add((long) from + (long) step * k, tape.byteAt(k));
            }
        }
        tape.empty();
        return settle(s);
    }

    public boolean wheel(int s, int n, int from) {
        if (n < 1 || n > MOST_VALUES) {
            return false;
        }
        maker.clear();
        for (int k = 0; k < n; k++) {
            maker.add((long) from + k, 1);
        }
        return settle(s);
    }

    public boolean urn(int s, int marked, int others, int draws, boolean back) {
        if (!isWithin(marked, 0, MOST_BALLS) || !isWithin(others, 0, MOST_BALLS)
                || !isWithin(draws, 1, MOST_DRAWS)) {
            return false;
        }
        int balls = marked + others;
        if (balls == 0 || (!back && draws > balls)) {
            return false;
        }
        maker.clear();
        for (int k = 0; k <= draws; k++) {
            long ways = back
                    ? choices(draws, k) * power(marked, k) * power(others, draws - k)
                    : choices(marked, k) * choices(others, draws - k);
            maker.add(k, ways);
        }
        return settle(s);
    }

    public boolean coin(int s, int p, int q) {
        if (!isShare(p, q, MOST_WHOLE)) {
            return false;
        }
        maker.clear();
        maker.add(0, q - p);
        maker.add(1, p);
        return settle(s);
    }

    public boolean sum(int s, int a, int b) {
        return settleOfBoth(s, a, b, SUM);
    }

    public boolean times(int s, int a, int k, int add) {
        Law law = shelf.lawIn(a);
        if (law == null || !isWithin(k, -MOST_FACTOR, MOST_FACTOR)
                || !isWithin(add, -MOST_ADDED, MOST_ADDED)) {
            return false;
        }
        maker.clear();
        for (int i = 0; i < law.at.length; i++) {
            maker.add((long) k * law.at[i] + add, law.weight[i]);
        }
        return settle(s);
    }

    public boolean of(int s, int a, int b, int what) {
        return isWithin(what, LESSER, SIGNED) && settleOfBoth(s, a, b, what);
    }

    public boolean mix(int s, int a, int b, int p, int q) {
        Law first = shelf.lawIn(a);
        Law second = shelf.lawIn(b);
        if (first == null || second == null || !isShare(p, q, MOST_PARTS)) {
            return false;
        }
        maker.clear();
        addAll(first, (long) p * second.whole);
        addAll(second, (long) (q - p) * first.whole);
        return settle(s);
    }

    public boolean given(int s, int a, int low, int high) {
        Law law = shelf.lawIn(a);
        if (law == null) {
            return false;
        }
        maker.clear();
        for (int i = 0; i < law.at.length; i++) {
            if (isWithin(law.at[i], low, high)) {
                maker.add(law.at[i], law.weight[i]);
            }
        }
        return settle(s);
    }

    public boolean undo() {
        return shelf.takeBack();
    }

    public boolean redo() {
        return shelf.doAgain();
    }

    public int values(int a) {
        Law law = shelf.lawIn(a);
        return law == null ? 0 : law.at.length;
    }

    public int value(int a, int k) throws NoSuchElementException {
        Law law = lawOf(a);
        if (k < 0 || k >= law.at.length) {
            throw new NoSuchElementException();
        }
        return law.at[k];
    }

    public long chance(int a, int v, int what) throws NoSuchElementException {
        Law law = lawOf(a);
        int k = law.indexOf(v);
        return part(k == NONE ? 0 : law.weight[k], law.whole, what);
    }

    public long below(int a, int t, int what) throws NoSuchElementException {
        Law law = lawOf(a);
        return part(law.weightUpTo(t), law.whole, what);
    }

    public long mean(int a, int what) throws NoSuchElementException {
        Law law = lawOf(a);
        return part(law.total(), law.whole, what);
    }

    public long variance(int a, int what) throws NoSuchElementException {
        Law law = lawOf(a);
        long total = law.total();
        long whole = law.whole;
        return part(whole * law.totalOfSquares() - total * total, whole * whole, what);
    }

    public long apart(int a, int b, int what) throws NoSuchElementException {
        Law first = lawOf(a);
        Law second = lawOf(b);
        difference.take(first, second);
        return part(difference.size(), 2 * product(first, second), what);
    }

    public long far(int a, int b, int what) throws NoSuchElementException {
        Law first = lawOf(a);
        Law second = lawOf(b);
        difference.take(first, second);
        return part(difference.area(), product(first, second), what);
    }

    public int above(int a, int b) {
        Law first = shelf.lawIn(a);
        Law second = shelf.lawIn(b);
        if (first == null || second == null) {
            return NONE;
        }
        difference.take(first, second);
        return heldUnless(difference.leastNotAbove());
    }

    public int spread(int a, int b) {
        Law first = shelf.lawIn(a);
        Law second = shelf.lawIn(b);
        if (first == null || second == null) {
            return NONE;
        }
        difference.take(first, second);
        return difference.ofMeans() == 0 ? heldUnless(difference.leastMoreSpread()) : 2;
    }

    public int bound() {
        return latestBound;
    }

    public int joint(int a, int b, int how) {
        Law first = shelf.lawIn(a);
        Law second = shelf.lawIn(b);
        if (first == null || second == null || !isWithin(how, 0, 1)) {
            return NONE;
        }
        jointLaw.make(first, second, how == 0);
        return jointLaw.size();
    }

    public long pair(int v, int w, int what) throws NoSuchElementException {
        return part(jointLaw.weightOf(v, w), jointLaw.whole(), what);
    }

    public int open(int a, int k) throws NoSuchElementException {
        Law law = lawOf(a);
        growTo(law, k);
        return tree.openPlaces();
    }

    public boolean leaf(int a, int v, int k) throws NoSuchElementException {
        Law law = lawOf(a);
        growTo(law, k);
        return tree.hasLeaf(law.indexOf(v));
    }

    public long lots(int a, int d, int what) throws NoSuchElementException {
        Law law = lawOf(a);
        if (!isWithin(d, 0, MOST_LOTS)) {
            throw new NoSuchElementException();
        }
        tree.plant(law);
        long upper = 0;
        long lower = 1;
        // lot k + 1 is needed as often as an open place of depth k is met
        for (int k = 0; k < d; k++) {
            upper = 2 * upper + 2 * tree.openPlaces();
            lower = 2 * lower;
            tree.grow();
        }
        return part(upper, lower, what);
    }

    public int draw(int a) throws NoSuchElementException {
        Law law = lawOf(a);
        tree.plant(law);
        int bits = tape.length() * 8;
        int number = 0;
        int used = 0;
        while (used < bits && number >= tree.leaves()) {
            number = 2 * (number - tree.leaves()) + tape.bitAt(used);
            tree.grow();
            used++;
        }
        latestTaken = used;
        tape.empty();
        int k = tree.indexOfLeaf(number);
        return k == NONE ? NOTHING : law.at[k];
    }

    public int taken() {
        return latestTaken;
    }

    public int pairs(int a, int n, int m) {
        Law law = shelf.lawIn(a);
        if (law == null || !isWithin(n, 1, Dice.MOST_FACES) || !isWithin(m, 1, Dice.MOST_FACES)) {
            return NONE;
        }
        dice.search(law, n, m);
        return dice.found();
    }

    public int face(int i, int die, int k) throws NoSuchElementException {
        if (!dice.hasFace(i, die, k)) {
            throw new NoSuchElementException();
        }
        return dice.faceOf(i, die, k);
    }

    public long beats(int a, int b, int what) throws NoSuchElementException {
        Law first = lawOf(a);
        Law second = lawOf(b);
        return part(winsOf(first, second), product(first, second), what);
    }

    public long ring(int what) {
        long answer = judgedRing(what);
        tape.empty();
        return answer;
    }

    public int count(int what) {
        switch (what) {
            case 0:
                return shelf.laws();
            case 1:
                return tape.length();
            case 2:
                return shelf.done();
            case 3:
                return shelf.undone();
            case 4:
                return dice.found();
            case 5:
                return jointLaw.size();
            default:
                return NONE;
        }
    }

    /** Ends an act: what the maker has gathered comes into slot s, unless it is refused. */
    private boolean settle(int s) {
        if (!shelf.hasSlot(s)) {
            return false;
        }
        Law law = maker.made();
        if (law == null) {
            return false;
        }
        shelf.put(s, law);
        return true;
    }

    private boolean settleOfBoth(int s, int a, int b, int rule) {
        Law first = shelf.lawIn(a);
        Law second = shelf.lawIn(b);
        if (first == null || second == null) {
            return false;
        }
        maker.clear();
        for (int i = 0; i < first.at.length; i++) {
            for (int j = 0; j < second.at.length; j++) {
                maker.add(joined(first.at[i], second.at[j], rule),
                        (long) first.weight[i] * second.weight[j]);
            }
        }
        return settle(s);
    }

    private static int joined(int v, int w, int rule) {
        switch (rule) {
            case LESSER:
                return Math.min(v, w);
            case GREATER:
                return Math.max(v, w);
            case SIGNED:
                return v * Integer.signum(w);
            default:
                return v + w;
        }
    }

    private void addAll(Law law, long factor) {
        for (int i = 0; i < law.at.length; i++) {
            maker.add(law.at[i], law.weight[i] * factor);
        }
    }

    private Law lawOf(int a) {
        Law law = shelf.lawIn(a);
        if (law == null) {
            throw new NoSuchElementException();
        }
        return law;
    }

    private void growTo(Law law, int depth) {
        if (!isWithin(depth, 0, DEEPEST)) {
            throw new NoSuchElementException();
        }
        tree.plant(law);
        for (int k = 0; k < depth; k++) {
            tree.grow();
        }
    }

    /** The answer of above or spread, kept as the bound where it does not hold. */
    private int heldUnless(int failing) {
        if (failing == NOTHING) {
            return 1;
        }
        latestBound = failing;
        return 0;
    }

    private long judgedRing(int what) {
        int n = tape.length();
        if (!isWithin(n, 1, MOST_IN_RING) || !isWithin(what, 0, 2)) {
            return NONE;
        }
        long upper = 1;
        long lower = 1;
        for (int k = 0; k < n; k++) {
            Law one = shelf.lawIn(tape.byteAt(k));
            Law next = shelf.lawIn(tape.byteAt(k + 1 < n ? k + 1 : 0));
            if (one == null || next == null) {
                return NONE;
            }
            long wins = winsOf(one, next);
            long throwsOfBoth = product(one, next);
            if (isLess(wins, throwsOfBoth, upper, lower)) {
                upper = wins;
                lower = throwsOfBoth;
            }
        }
        if (what == 2) {
            return 2 * upper > lower ? 1 : 0;
        }
        return part(upper, lower, what);
    }

    /** In how many of the product of both wholes the first one's draw is greater. */
    private static long winsOf(Law first, Law second) {
        long wins = 0;
        long under = 0;
        int j = 0;
        for (int i = 0; i < first.at.length; i++) {
            while (j < second.at.length && second.at[j] < first.at[i]) {
                under += second.weight[j];
                j++;
            }
            wins += first.weight[i] * under;
        }
        return wins;
    }

    private static long product(Law first, Law second) {
        return (long) first.whole * second.whole;
    }

    /** One number of a fraction in its least terms; the lower one is 1 or more. */
    private static long part(long upper, long lower, int what) {
        if (what != 0 && what != 1) {
            throw new NoSuchElementException();
        }
        long divisor = commonDivisor(upper, lower);
        return (what == 0 ? upper : lower) / divisor;
    }

    /** At least 1, so that it can always be divided by. */
    private static long commonDivisor(long a, long b) {
        long x = Math.abs(a);
        long y = Math.abs(b);
        // longs are done with after some 90 turns
        for (int turn = 0; turn < 100 && y > 0; turn++) {
            long rest = x % y;
            x = y;
            y = rest;
        }
        return Math.max(x, 1);
    }

    /**
     * Whether one fraction of 0 to 1 is less than another. Their cross products would need 80
     * bits, so they are compared digit by digit, 20 bits a digit: unlike ones with lower numbers
     * of 2^40 at most lie 2^-80 apart or more, and so differ in one of the first four digits.
     */
    private static boolean isLess(long upper, long lower, long otherUpper, long otherLower) {
        if (lower < 1 || otherLower < 1) {
            return false;
        }
        long rest = upper;
        long otherRest = otherUpper;
        for (int digit = 0; digit <= 4; digit++) {
            long here = rest / lower;
            long there = otherRest / otherLower;
            if (here != there) {
                return here < there;
            }
            rest = (rest % lower) << 20;
            otherRest = (otherRest % otherLower) << 20;
        }
        return false;
    }

    private static boolean isWithin(int x, int low, int high) {
        return x >= low && x <= high;
    }

    private static boolean isShare(int p, int q, int mostParts) {
        return isWithin(q, 1, mostParts) && isWithin(p, 0, q);
    }

    private static long choices(int n, int k) {
        if (k < 0 || k > n) {
            return 0;
        }
        long ways = 1;
        for (int i = 1; i <= k; i++) {
            ways = ways * (n - k + i) / i;
        }
        return ways;
    }

    private static long power(int base, int exponent) {
        long result = 1;
        for (int i = 0; i < exponent; i++) {
            result *= base;
        }
        return result;
    }

    /** Where v stands, or would have to stand, among the first numbers of a rising row. */
    private static int placeIn(int[] row, int size, int v) {
        int low = 0;
        int high = size < row.length ? size : row.length;
        while (low < high) {
            int middle = (low + high) >>> 1;
            if (row[middle] < v) {
                low = middle + 1;
            } else {
                high = middle;
            }
        }
        return low;
    }

    /** A law: rising values, each with its weight. It is never changed. */
    private static final class Law {
        final int[] at;
        final int[] weight;
        final int whole;

        Law(int[] at, int[] weight, int whole) {
            this.at = at;
            this.weight = weight;
            this.whole = whole;
        }

        int indexOf(int v) {
            int k = placeIn(at, at.length, v);
            return k < at.length && at[k] == v ? k : NONE;
        }

        long weightUpTo(int t) {
            long weights = 0;
            for (int k = 0; k < at.length && at[k] <= t; k++) {
                weights += weight[k];
            }
            return weights;
        }

        long total() {
            long total = 0;
            for (int k = 0; k < at.length; k++) {
                total += (long) at[k] * weight[k];
            }
            return total;
        }

        long totalOfSquares() {
            long total = 0;
            for (int k = 0; k < at.length; k++) {
                total += (long) at[k] * at[k] * weight[k];
            }
            return total;
        }
    }

    /** Gathers weights by value, and makes a law of them if they are one. */
    private static final class Maker {
        private final int[] at = new int[MOST_VALUES];
        private final long[] weight = new long[MOST_VALUES];
        private int size = 0;
        private boolean refused = false;

        void clear() {
            size = 0;
            refused = false;
        }

        /** A weight of 0 gives no value, so it is not looked at whether it may stand there. */
        void add(long v, long more) {
            if (refused || more < 1) {
                return;
            }
            if (v < -FARTHEST || v > FARTHEST) {
                refused = true;
                return;
            }
            int place = placeIn(at, size, (int) v);
            if (place < size && at[place] == v) {
                weight[place] += more;
            } else if (size < MOST_VALUES) {
                insert(place, (int) v, more);
            } else {
                refused = true;
            }
        }

        private void insert(int place, int v, long first) {
            for (int k = size; k > place; k--) {
                at[k] = at[k - 1];
                weight[k] = weight[k - 1];
            }
            at[place] = v;
            weight[place] = first;
            size++;
        }

        /** The law, or null if it is refused. */
        Law made() {
            if (refused || size < 1) {
                return null;
            }
            long divisor = 0;
            long whole = 0;
            for (int k = 0; k < size; k++) {
                divisor = commonDivisor(weight[k], divisor);
                whole += weight[k];
            }
            if (divisor < 1 || whole / divisor > MOST_WHOLE) {
                return null;
            }
            int[] lawAt = new int[size];
            int[] lawWeight = new int[size];
            for (int k = 0; k < size; k++) {
                lawAt[k] = at[k];
                lawWeight[k] = (int) (weight[k] / divisor);
            }
            return new Law(lawAt, lawWeight, (int) (whole / divisor));
        }
    }

    /** The slots, with the latest acts: those done stand first, those undone behind them. */
    private static final class Shelf {
        private static final int MOST_ACTS = 30;

        private final Law[] laws = new Law[SLOTS];
        private final int[] actSlot = new int[MOST_ACTS];
        private final Law[] actAhead = new Law[MOST_ACTS];
        private final Law[] actMade = new Law[MOST_ACTS];
        private int oldest = 0;
        private int done = 0;
        private int undone = 0;

        boolean hasSlot(int s) {
            return s >= 0 && s < SLOTS;
        }

        /** The law in a slot, or null if there is no law or no such slot. */
        Law lawIn(int s) {
            return hasSlot(s) ? laws[s] : null;
        }

        int laws() {
            int number = 0;
            for (int s = 0; s < SLOTS; s++) {
                if (laws[s] != null) {
                    number++;
                }
            }
            return number;
        }

        int done() {
            return done;
        }

        int undone() {
            return undone;
        }

        void put(int s, Law law) {
            if (!hasSlot(s)) {
                return;
            }
            if (done == MOST_ACTS) {
                oldest = (oldest + 1) % MOST_ACTS;
                done--;
            }
            int act = placeOfAct(done);
            actSlot[act] = s;
            actAhead[act] = laws[s];
            actMade[act] = law;
            laws[s] = law;
            done++;
            undone = 0;
        }

        boolean takeBack() {
            if (done < 1) {
                return false;
            }
            done--;
            undone++;
            int act = placeOfAct(done);
            laws[actSlot[act]] = actAhead[act];
            return true;
        }

        boolean doAgain() {
            if (undone < 1) {
                return false;
            }
            int act = placeOfAct(done);
            laws[actSlot[act]] = actMade[act];
            done++;
            undone--;
            return true;
        }

        /** The acts go round in their rows, so that the oldest one is let go without moving any. */
        private int placeOfAct(int k) {
            return (oldest + k) % MOST_ACTS;
        }
    }

    /** The tape of bytes. */
    private static final class Tape {
        private static final int MOST_BYTES = 200;
        private static final int BYTES_FED = 20;

        private final int[] bytes = new int[MOST_BYTES];
        private int length = 0;

        int length() {
            return length;
        }

        boolean hasRoom() {
            return length + BYTES_FED <= MOST_BYTES;
        }

        void write(int number) {
            for (int shift = 24; shift >= 0 && length < MOST_BYTES; shift -= 8) {
                bytes[length] = (number >>> shift) & 255;
                length++;
            }
        }

        boolean cut(int n) {
            if (n < 0 || n > length) {
                return false;
            }
            length = n;
            return true;
        }

        void empty() {
            length = 0;
        }

        int byteAt(int k) {
            return k >= 0 && k < length ? bytes[k] : 0;
        }

        int bitAt(int k) {
            return (byteAt(k >> 3) >> (7 - (k & 7))) & 1;
        }
    }

    /**
     * How the first of two laws differs from the second, value by value, in parts of the product
     * of both wholes. The running sum of it is the difference of the chances to be at most t.
     */
    private static final class Difference {
        private final int[] at = new int[2 * MOST_VALUES];
        private final long[] by = new long[2 * MOST_VALUES];
        private int length = 0;

        void take(Law first, Law second) {
            length = 0;
            int i = 0;
            int j = 0;
            while (i < first.at.length || j < second.at.length) {
                boolean ofFirst = j >= second.at.length
                        || (i < first.at.length && first.at[i] <= second.at[j]);
                if (ofFirst) {
                    note(first.at[i], (long) first.weight[i] * second.whole);
                    i++;
                } else {
                    note(second.at[j], -(long) second.weight[j] * first.whole);
                    j++;
                }
            }
        }

        private void note(int v, long more) {
            if (length > 0 && at[length - 1] == v) {
                by[length - 1] += more;
            } else if (length < at.length) {
                at[length] = v;
                by[length] = more;
                length++;
            }
        }

        long size() {
            long size = 0;
            for (int k = 0; k < length; k++) {
                size += Math.abs(by[k]);
            }
            return size;
        }

        long area() {
            long area = 0;
            long running = 0;
            for (int k = 0; k + 1 < length; k++) {
                running += by[k];
                area += Math.abs(running) * (at[k + 1] - at[k]);
            }
            return area;
        }

        long ofMeans() {
            long total = 0;
            for (int k = 0; k < length; k++) {
                total += by[k] * at[k];
            }
            return total;
        }

        /** The least t that the first one reaches with less chance, or NOTHING. */
        int leastNotAbove() {
            long running = 0;
            for (int k = 0; k < length; k++) {
                running += by[k];
                if (running > 0) {
                    return at[k] + 1;
                }
            }
            return NOTHING;
        }

        /**
         * The least t over which the first one is more on average, or NOTHING, for laws of one
         * mean: what is over t is then alike at the least value, and the difference of it goes
         * up from one t to the next by the running sum, which stays as it is between two values.
         */
        int leastMoreSpread() {
            long running = 0;
            long over = 0;
            for (int k = 0; k + 1 < length; k++) {
                running += by[k];
                int gap = at[k + 1] - at[k];
                if (running > 0) {
                    long steps = -over / running + 1;
                    if (steps <= gap) {
                        return at[k] + (int) steps;
                    }
                }
                over += running * gap;
            }
            return NOTHING;
        }
    }

    /** The latest joint law, in parts of the product of the wholes that both laws had then. */
    private static final class Joint {
        private static final int MOST_PAIRS = 3 * MOST_VALUES;

        private final int[] firstAt = new int[MOST_PAIRS];
        private final int[] secondAt = new int[MOST_PAIRS];
        private final long[] weight = new long[MOST_PAIRS];
        private final long[] firstLeft = new long[MOST_VALUES];
        private final long[] secondLeft = new long[MOST_VALUES];
        private int size = 0;
        private long whole = 1;

        int size() {
            return size;
        }

        long whole() {
            return whole;
        }

        void make(Law first, Law second, boolean likeFirst) {
            size = 0;
            whole = product(first, second);
            fill(firstLeft, first, second.whole);
            fill(secondLeft, second, first.whole);
            if (likeFirst) {
                pairLikes(first, second);
            }
            pairNorthwest(first, second);
        }

        private static void fill(long[] left, Law law, int factor) {
            for (int k = 0; k < law.at.length && k < left.length; k++) {
                left[k] = (long) law.weight[k] * factor;
            }
        }

        private void pairLikes(Law first, Law second) {
            for (int i = 0; i < first.at.length; i++) {
                int j = second.indexOf(first.at[i]);
                if (j != NONE) {
                    pairUp(first, i, second, j);
                }
            }
        }

        /** The lesser one of two lefts is 0 once they are paired, so each turn leaves one behind. */
        private void pairNorthwest(Law first, Law second) {
            int i = 0;
            int j = 0;
            while (i < first.at.length && j < second.at.length) {
                pairUp(first, i, second, j);
                if (firstLeft[i] == 0) {
                    i++;
                } else {
                    j++;
                }
            }
        }

        private void pairUp(Law first, int i, Law second, int j) {
            long lesser = Math.min(firstLeft[i], secondLeft[j]);
            if (lesser < 1 || size >= MOST_PAIRS) {
                return;
            }
            firstLeft[i] -= lesser;
            secondLeft[j] -= lesser;
            firstAt[size] = first.at[i];
            secondAt[size] = second.at[j];
            weight[size] = lesser;
            size++;
        }

        long weightOf(int v, int w) {
            for (int k = 0; k < size; k++) {
                if (firstAt[k] == v && secondAt[k] == w) {
                    return weight[k];
                }
            }
            return 0;
        }
    }

    /**
     * The tree of a law, one depth of it at a time: of each value the digit of its chance at
     * this depth (1: it has a leaf here), and the rest of its chance behind that digit.
     */
    private static final class Tree {
        private final int[] rest = new int[MOST_VALUES];
        private final int[] digit = new int[MOST_VALUES];
        private int length = 0;
        private int whole = 1;
        private int leaves = 0;
        private int openPlaces = 0;

        int leaves() {
            return leaves;
        }

        int openPlaces() {
            return openPlaces;
        }

        void plant(Law law) {
            length = Math.min(law.at.length, MOST_VALUES);
            whole = law.whole;
            for (int k = 0; k < length; k++) {
                rest[k] = law.weight[k];
            }
            splitOff(1, 1);
        }

        void grow() {
            splitOff(2 * openPlaces, 2);
        }

        private void splitOff(int places, int factor) {
            leaves = 0;
            for (int k = 0; k < length; k++) {
                int here = factor * rest[k];
                digit[k] = here >= whole ? 1 : 0;
                rest[k] = here - digit[k] * whole;
                leaves += digit[k];
            }
            openPlaces = places - leaves;
        }

        boolean hasLeaf(int k) {
            return k >= 0 && k < length && digit[k] == 1;
        }

        /** The index of the value whose leaf has this number here, or NONE if no leaf has it. */
        int indexOfLeaf(int number) {
            int leaf = 0;
            for (int k = 0; k < length; k++) {
                if (digit[k] == 1) {
                    if (leaf == number) {
                        return k;
                    }
                    leaf++;
                }
            }
            return NONE;
        }
    }

    /**
     * Takes a law apart into pairs of dice. The least throw that no faces found so far account
     * for must be the next face of one die with the least face of the other: these two ways are
     * tried at each step, so at most 10 choose 5 ways end in a pair.
     */
    private static final class Dice {
        private static final int MOST_FACES = 6;
        private static final int MOST_PAIRS = 252;
        private static final int ROW = 2 * MOST_FACES;

        private final int[] kept = new int[MOST_PAIRS * ROW];
        private final int[] first = new int[MOST_FACES];
        private final int[] second = new int[MOST_FACES];
        private final int[] throwsAt = new int[MOST_VALUES];
        private final int[] throwsLeft = new int[MOST_VALUES];
        private int length = 0;
        private int found = 0;
        private int firstFaces = 0;
        private int secondFaces = 0;

        int found() {
            return found;
        }

        boolean hasFace(int i, int die, int k) {
            if (i < 0 || i >= found || k < 0) {
                return false;
            }
            return (die == 0 && k < firstFaces) || (die == 1 && k < secondFaces);
        }

        int faceOf(int i, int die, int k) {
            return hasFace(i, die, k) ? kept[i * ROW + die * MOST_FACES + k] : NONE;
        }

        void search(Law law, int n, int m) {
            found = 0;
            firstFaces = Math.min(n, MOST_FACES);
            secondFaces = Math.min(m, MOST_FACES);
            int pairsOfFaces = firstFaces * secondFaces;
            if (law.whole < 1 || pairsOfFaces % law.whole != 0) {
                return;
            }
            length = Math.min(law.at.length, MOST_VALUES);
            for (int k = 0; k < length; k++) {
                throwsAt[k] = law.at[k];
                throwsLeft[k] = law.weight[k] * (pairsOfFaces / law.whole);
            }
            first[0] = 0;
            second[0] = throwsAt[0];
            throwsLeft[0]--;
            extend(1, 1, NONE);
        }

        /**
         * Goes on from x faces of the first die and y of the second. Where both dice have a next
         * face for the same throw, the first die's is taken first, so that each pair is met once
         * and the pairs come in order; barred is the throw for which that turn is over.
         */
        private void extend(int x, int y, int barred) {
            if (x >= firstFaces && y >= secondFaces) {
                keep();
                return;
            }
            int least = leastThrowLeft();
            if (least == NONE) {
                return;
            }
            if (x < firstFaces && least != barred) {
                first[x] = throwsAt[least] - second[0];
                if (takeThrows(first[x], second, y)) {
                    extend(x + 1, y, NONE);
                    giveBackThrows(first[x], second, y);
                }
            }
            if (y < secondFaces) {
                second[y] = throwsAt[least] - first[0];
                if (takeThrows(second[y], first, x)) {
                    extend(x, y + 1, least);
                    giveBackThrows(second[y], first, x);
                }
            }
        }

        private int leastThrowLeft() {
            for (int k = 0; k < length; k++) {
                if (throwsLeft[k] > 0) {
                    return k;
                }
            }
            return NONE;
        }

        /** Takes the throws of a new face with those of the other die, all of them or none. */
        private boolean takeThrows(int newFace, int[] others, int size) {
            for (int k = 0; k < size && k < others.length; k++) {
                int at = indexOfThrow(newFace + others[k]);
                if (at == NONE || throwsLeft[at] < 1) {
                    giveBackThrows(newFace, others, k);
                    return false;
                }
                throwsLeft[at]--;
            }
            return true;
        }

        private void giveBackThrows(int newFace, int[] others, int size) {
            for (int k = 0; k < size && k < others.length; k++) {
                int at = indexOfThrow(newFace + others[k]);
                if (at != NONE) {
                    throwsLeft[at]++;
                }
            }
        }

        private int indexOfThrow(int v) {
            int k = placeIn(throwsAt, length, v);
            return k < length && throwsAt[k] == v ? k : NONE;
        }

        private void keep() {
            if (found >= MOST_PAIRS) {
                return;
            }
            int row = found * ROW;
            for (int k = 0; k < MOST_FACES; k++) {
                kept[row + k] = first[k];
                kept[row + MOST_FACES + k] = second[k];
            }
            found++;
        }
    }
}
