import java.util.function.BiPredicate;

/** The terms of the document, and how long an object is used: each sentence by itself. */
final class BoundsOfTerms {
    private static final int TERMS = Document.TERMS;
    private static final int LOW = Due.LOW;
    private static final int HIGH = Due.HIGH;
    private static final int BARE = Twins.BARE;

    private BoundsOfTerms() {
    }

    static void check() {
        slots();
        valuesToThousand();
        twentyFourValues();
        weightsOfOneOrMore();
        weightsWithoutDivisor();
        wholeOfAMillion();
        chances();
        refusedLaws();
        fractions();
        actsDone();
        undoneSlot();
        doneAgain();
        noOtherActBehind();
        thirtyActs();
        apartByDifferences();
        apartOfMissingValues();
        farOverAllNumbers();
        aboveForEach();
        aboveBound();
        spreadForEach();
        spreadBound();
        jointSums();
        northwest();
        joints();
        treeFromPlaceZero();
        treeByLots();
        treeLeavesFirst();
        treeDigitsThatEnd();
        treeDigitsAtDepth();
        treeOpenPlaces();
        treeOfOneValue();
        drawnTillALeaf();
        diceFaces();
        diceOfALaw();
        diceInOrder();
        beatsAboveAHalf();
        throwsChangeNothing();
        fiveHundredTwelveCalls();
    }

    private static void slots() {
        Document.says(TERMS, "LAWS lie in SLOTS 0 .. 15 (at first none).");
        ChanceBench x = new ChanceBench();
        for (int s = 0; s < 16; s++) {
            Due.is("values(" + s + ") at first", x.values(s), 0);
        }
        for (int s = 0; s < 16; s++) {
            Due.is("wheel(" + s + ", 1, ..)", x.wheel(s, 1, 100 + s), true);
        }
        for (int s = 0; s < 16; s++) {
            Due.is("value(" + s + ", 0)", x.value(s, 0), 100 + s);
        }
        for (int s : new int[] {-1, 16, HIGH, LOW}) {
            Due.is("wheel(" + s + ", 1, 1)", x.wheel(s, 1, 1), false);
            Due.is("values(" + s + ")", x.values(s), 0);
        }
        for (int s = 0; s < 16; s++) {
            Due.is("value(" + s + ", 0) then", x.value(s, 0), 100 + s);
        }
    }

    /** The act, tried for slot 0, makes this law there. */
    private static void isLaw(String call, String law, BiPredicate<ChanceBench, Integer> act) {
        ChanceBench x = new ChanceBench();
        Due.is(call, act.test(x, 0), true);
        Due.lawIs(call, x, 0, law);
    }

    /** The act, tried for slot 0, is refused; the slot has a law, which stays. */
    private static void isRefused(String call, BiPredicate<ChanceBench, Integer> act) {
        ChanceBench x = new ChanceBench();
        x.wheel(0, 2, 40);
        Due.is(call, act.test(x, 0), false);
        Due.lawIs(call + ": the slot stays", x, 0, "40:1/2 41:1/2");
    }

    private static void valuesToThousand() {
        Document.says(TERMS, "A LAW has VALUES, whole numbers -1000 to 1000,");
        isLaw("wheel to 1000", "999:1/2 1000:1/2", (x, s) -> x.wheel(s, 2, 999));
        isLaw("wheel from -1000", "-1000:1/2 -999:1/2", (x, s) -> x.wheel(s, 2, -1000));
        isLaw("sheet to both", "-1000:1/2 1000:1/2", (x, s) -> sheet(x, s, -1000, 100, spaced(2, 20)));
        isLaw("sum to 1000", "1000:1/1", (x, s) -> x.wheel(1, 1, 500) && x.sum(s, 1, 1));
        isLaw("sum to -1000", "-1000:1/1", (x, s) -> x.wheel(1, 1, -500) && x.sum(s, 1, 1));
        isLaw("times to 1000", "1000:1/1", (x, s) -> x.wheel(1, 1, -1000) && x.times(s, 1, -1, 0));
        isLaw("of to 1000", "1000:1/1", (x, s) -> x.wheel(1, 1, -1000) && x.of(s, 1, 1, 2));
    }

    private static boolean sheet(ChanceBench x, int s, int from, int step, int... bytes) {
        Due.tape(x, bytes);
        return x.sheet(s, from, step);
    }

    /** n ones, each so many places behind the one ahead of it. */
    private static int[] spaced(int n, int places) {
        int[] bytes = new int[(n - 1) * places + 1];
        for (int k = 0; k < n; k++) {
            bytes[k * places] = 1;
        }
        return bytes;
    }

    private static void has(String call, int values, BiPredicate<ChanceBench, Integer> act) {
        ChanceBench x = new ChanceBench();
        Due.is(call, act.test(x, 0), true);
        Due.is(call + ": how many values", x.values(0), values);
    }

    private static void twentyFourValues() {
        Document.says(TERMS, "24 unlike ones at most,");
        has("wheel of 24", 24, (x, s) -> x.wheel(s, 24, 0));
        has("sheet of 24 in 24 bytes", 24, (x, s) -> sheet(x, s, 0, 1, spaced(24, 1)));
        has("sheet of 24 in 185 bytes", 24, (x, s) -> sheet(x, s, 0, 1, spaced(24, 8)));
        has("sum of 12 and 13", 24, (x, s) -> x.wheel(1, 12, 0) && x.wheel(2, 13, 0) && x.sum(s, 1, 2));
        has("sum of 24 and 1", 24, (x, s) -> x.wheel(1, 24, 0) && x.wheel(2, 1, 0) && x.sum(s, 1, 2));
        has("sum of 24 and 24 by 0", 24, (x, s) -> x.wheel(1, 24, 0) && x.times(2, 1, 0, 3) && x.sum(s, 1, 2));
        has("lesser of 24", 24, (x, s) -> x.wheel(1, 24, 0) && x.of(s, 1, 1, 0));
        has("greater of 24", 24, (x, s) -> x.wheel(1, 24, 0) && x.of(s, 1, 1, 1));
        has("lesser of 13 and 11 others", 24, (x, s) -> sheet(x, 1, 0, 2, spaced(13, 1))
                && sheet(x, 2, 1, 2, 1, 1, 1, 1, 1, 1, 1, 1, 1, 1, 1, 0, 1) && x.of(s, 1, 2, 0));
        has("12 by two signs", 24, (x, s) -> x.wheel(1, 12, 1) && sheet(x, 2, -1, 2, 1, 1) && x.of(s, 1, 2, 2));
        has("mix of 12 and 12 others", 24, (x, s) -> x.wheel(1, 12, 0) && x.wheel(2, 12, 12) && x.mix(s, 1, 2, 1, 2));
        has("mix of 24 and the same", 24, (x, s) -> x.wheel(1, 24, 0) && x.mix(s, 1, 1, 1, 3));
        has("mix of 24 and 24 others that have no chance", 24,
                (x, s) -> x.wheel(1, 24, 0) && x.wheel(2, 24, 24) && x.mix(s, 1, 2, 1, 1));
        has("times of 24", 24, (x, s) -> x.wheel(1, 24, 0) && x.times(s, 1, -40, 1000));
        has("given of 24", 24, (x, s) -> x.wheel(1, 24, 0) && x.given(s, 1, 0, 23));
    }

    private static void weightsOfOneOrMore() {
        Document.says(TERMS, "each with a WEIGHT of 1 or more;");
        isLaw("sheet with a weight of 1", "0:1/256 1:255/256", (x, s) -> sheet(x, s, 0, 1, 1, 255));
        isLaw("sheet with a weight of 0", "1:1/1", (x, s) -> sheet(x, s, 0, 1, 0, 255));
        isLaw("coin of 0", "0:1/1", (x, s) -> x.coin(s, 0, 5));
        isLaw("coin of all", "1:1/1", (x, s) -> x.coin(s, 5, 5));
        isLaw("urn of which none can be drawn", "1:2/3 2:1/3", (x, s) -> x.urn(s, 2, 1, 2, false));
        isLaw("mix of a law with no chance", "1:1/1", (x, s) -> x.wheel(1, 1, 1) && x.wheel(2, 1, 2) && x.mix(s, 1, 2, 3, 3));
    }

    private static void weightsWithoutDivisor() {
        Document.says(TERMS, "WHOLE is the sum of WEIGHTS, which have no divisor in common but 1 (they are divided by it)");
        isLaw("sheet of 255 alone", "0:1/1", (x, s) -> sheet(x, s, 0, 1, 255));
        isLaw("sheet of 6, 10, 15", "0:6/31 1:10/31 2:15/31", (x, s) -> sheet(x, s, 0, 1, 6, 10, 15));
        isLaw("coin of 2^19 in 2^20", "0:1/2 1:1/2", (x, s) -> x.coin(s, 524288, 1048576));
        // 2^40 ways, but a whole of 2^20 once they are divided
        isLaw("lesser of a law and 1, of great weights", "0:1048575/1048576 1:1/1048576",
                (x, s) -> x.coin(1, 1, 1048576) && x.wheel(2, 24, 1) && x.of(s, 1, 2, 0));
        isLaw("mix of a law with itself", "0:1048575/1048576 1:1/1048576", (x, s) -> x.coin(1, 1, 1048576) && x.mix(s, 1, 1, 333, 1000));
        isLaw("urn of 20 and 20", Due.weights(0, 1, 1, 10, 45, 120, 210, 252, 210, 120, 45, 10, 1), (x, s) -> x.urn(s, 20, 20, 10, true));
        isLaw("sum of 2^20 and 2^20 ways to one value", "0:1/2 1:1/2",
                (x, s) -> x.coin(1, 1, 1048576) && x.times(1, 1, 0, 0) && x.coin(2, 1, 2) && x.sum(s, 1, 2));
    }

    private static void wholeOfAMillion() {
        Document.says(TERMS, "and then at most 1048576 together.");
        isLaw("coin of 1048576", "0:1048575/1048576 1:1/1048576", (x, s) -> x.coin(s, 1, 1048576));
        has("sum of 1024 by 1024", 4, (x, s) -> x.coin(1, 1, 1024) && x.coin(2, 1, 1024) && x.times(2, 2, 2, 0) && x.sum(s, 1, 2));
        isRefused("sum of 17 by 61681, 1048577", (x, s) -> x.coin(1, 1, 17) && x.coin(2, 1, 61681) && x.times(2, 2, 2, 0) && x.sum(s, 1, 2));
        isLaw("lesser of 1024 by 1024", "0:1048575/1048576 1:1/1048576", (x, s) -> x.coin(1, 1, 1024) && x.of(s, 1, 1, 0));
        isRefused("lesser of 17 by 61681", (x, s) -> x.coin(1, 1, 17) && x.coin(2, 1, 61681) && x.of(s, 1, 2, 0));
        isLaw("mix of 512 by 2048", "0:2047/1048576 1:1/1048576 5:511/512",
                (x, s) -> x.coin(1, 1, 2048) && x.wheel(2, 1, 5) && x.mix(s, 1, 2, 1, 512));
        isRefused("mix of 17 by 61681", (x, s) -> x.coin(1, 1, 61681) && x.wheel(2, 1, 5) && x.mix(s, 1, 2, 1, 17));
        has("urn of 4^10", 11, (x, s) -> x.urn(s, 5, 15, 10, true));
        isRefused("urn of 5^10", (x, s) -> x.urn(s, 4, 16, 10, true));
        isRefused("sum of 2^20 by 2^20", (x, s) -> x.coin(1, 1, 1048576) && x.sum(s, 1, 1));
        isRefused("mix of 2^20, 2^20 - 1 and 1000", (x, s) -> x.coin(1, 1, 1048576) && x.coin(2, 1, 1048575) && x.mix(s, 1, 2, 1, 1000));
    }

    private static void chances() {
        Document.says(TERMS, "The CHANCE of a VALUE is its WEIGHT by WHOLE.");
        isLaw("of one value", "7:1/1", (x, s) -> x.wheel(s, 1, 7));
        isLaw("of 1, 2, 3 by 6", "0:1/6 1:1/3 2:1/2", (x, s) -> sheet(x, s, 0, 1, 1, 2, 3));
    }

    private static void refusedLaws() {
        Document.says(TERMS, "What would be no LAW (a VALUE beyond, a 25th one, WHOLE too great, no WEIGHT at all) is refused: the SLOT stays.");
        isRefused("wheel to 1001", (x, s) -> x.wheel(s, 2, 1000));
        isRefused("wheel from -1001", (x, s) -> x.wheel(s, 2, -1001));
        isRefused("sheet to 1001", (x, s) -> sheet(x, s, -999, 100, spaced(2, 20)));
        isRefused("sheet from -1001", (x, s) -> sheet(x, s, -1001, 100, spaced(2, 20)));
        isRefused("sum to 1001", (x, s) -> x.wheel(1, 2, 500) && x.wheel(2, 1, 500) && x.sum(s, 1, 2));
        isRefused("sum to -1001", (x, s) -> x.wheel(1, 2, -501) && x.wheel(2, 1, -500) && x.sum(s, 1, 2));
        isRefused("times to 1001", (x, s) -> x.wheel(1, 2, 500) && x.times(s, 1, 2, -1));
        isRefused("times to -1001", (x, s) -> x.wheel(1, 2, 500) && x.times(s, 1, -2, 1));
        isRefused("wheel of 25", (x, s) -> x.wheel(s, 25, 0));
        isRefused("sheet of 25", (x, s) -> sheet(x, s, 0, 1, spaced(25, 1)));
        isRefused("sheet of 25 in 193 bytes", (x, s) -> sheet(x, s, 0, 1, spaced(25, 8)));
        isRefused("sum of 13 and 13", (x, s) -> x.wheel(1, 13, 0) && x.sum(s, 1, 1));
        isRefused("12 by three signs", (x, s) -> x.wheel(1, 12, 1) && x.wheel(2, 3, -1) && x.of(s, 1, 2, 2));
        isRefused("lesser of 13 and 12 others", (x, s)
                -> sheet(x, 1, 0, 2, spaced(13, 1)) && sheet(x, 2, 1, 2, spaced(13, 1)) && x.of(s, 1, 2, 0));
        isRefused("greater of 13 and 12 others", (x, s)
                -> sheet(x, 1, 0, 2, spaced(13, 1)) && sheet(x, 2, -1, 2, spaced(13, 1)) && x.of(s, 1, 2, 1));
        isRefused("mix of 12 and 13 others", (x, s) -> x.wheel(1, 12, 0) && x.wheel(2, 13, 12) && x.mix(s, 1, 2, 1, 2));
        isRefused("whole too great", (x, s) -> x.coin(1, 1, 17) && x.coin(2, 1, 61681) && x.of(s, 1, 2, 1));
        isRefused("sheet of no bytes", (x, s) -> sheet(x, s, 0, 1));
        isRefused("sheet of 200 bytes of 0", (x, s) -> sheet(x, s, 0, 1, new int[200]));
        isRefused("given none", (x, s) -> x.given(s, s, 42, HIGH));
    }

    private static void fractionIs(String call, long upper, long lower, String want) {
        Due.fractionIs(call, upper, lower, want);
    }

    private static void fractions() {
        Document.says(TERMS, "A fraction is told by two numbers without a divisor in common: its upper one (what 0) and its lower one (1),"
                + " which is 1 or more; 0 is 0 by 1.");
        ChanceBench x = new ChanceBench();
        x.wheel(0, 6, -9);
        x.wheel(1, 3, -1);
        x.wheel(2, 1, 5);
        fractionIs("mean(0), below 0", x.mean(0, 0), x.mean(0, 1), "-13/2");
        fractionIs("mean(1), 0", x.mean(1, 0), x.mean(1, 1), "0/1");
        fractionIs("variance(2), 0", x.variance(2, 0), x.variance(2, 1), "0/1");
        fractionIs("chance(0, 9), 0", x.chance(0, 9, 0), x.chance(0, 9, 1), "0/1");
        fractionIs("below(0, -10), 0", x.below(0, -10, 0), x.below(0, -10, 1), "0/1");
        fractionIs("below(0, -7), 3/6", x.below(0, -7, 0), x.below(0, -7, 1), "1/2");
        fractionIs("below(0, 0), 1", x.below(0, 0, 0), x.below(0, 0, 1), "1/1");
        fractionIs("apart(0, 0), 0", x.apart(0, 0, 0), x.apart(0, 0, 1), "0/1");
        fractionIs("far(0, 0), 0", x.far(0, 0, 0), x.far(0, 0, 1), "0/1");
        fractionIs("pair(0, 0), 0", x.pair(0, 0, 0), x.pair(0, 0, 1), "0/1");
        fractionIs("lots(0, 0), 0", x.lots(0, 0, 0), x.lots(0, 0, 1), "0/1");
        fractionIs("beats(0, 1), 0", x.beats(0, 1, 0), x.beats(0, 1, 1), "0/1");
        Due.tape(x, 2);
        long upper = x.ring(0);
        Due.tape(x, 2);
        fractionIs("ring of one value, 0", upper, x.ring(1), "0/1");
    }

    private static void actsDone() {
        Document.says(TERMS, "An ACT that makes a LAW (sheet to given) is DONE with true.");
        for (int which = 0; which < 9; which++) {
            ChanceBench x = new ChanceBench();
            x.wheel(1, 2, 1);
            Due.is("act " + which, act(x, which, 5), true);
            Due.is("act " + which + ": count(2)", x.count(2), 2);
            Due.is("act " + which + ", refused", act(x, which, 16), false);
            Due.is("act " + which + ", refused: count(2)", x.count(2), 2);
        }
        ChanceBench x = Twins.rich();
        x.above(0, 1);
        x.joint(0, 1, 1);
        x.pairs(0, 2, 3);
        x.draw(0);
        x.ring(0);
        Due.is("count(2) behind what makes no law", x.count(2), 4);
        Due.is("count(3) behind what makes no law", x.count(3), 2);
    }

    /** One of the nine acts, sheet to given. */
    private static boolean act(ChanceBench x, int which, int s) {
        switch (which) {
            case 0:
                return sheet(x, s, 0, 1, 1, 2);
            case 1:
                return x.wheel(s, 2, 0);
            case 2:
                return x.urn(s, 1, 1, 1, true);
            case 3:
                return x.coin(s, 1, 2);
            case 4:
                return x.sum(s, 1, 1);
            case 5:
                return x.times(s, 1, 2, 0);
            case 6:
                return x.of(s, 1, 1, 0);
            case 7:
                return x.mix(s, 1, 1, 1, 2);
            default:
                return x.given(s, 1, 1, 1);
        }
    }

    private static void undoneSlot() {
        Document.says(TERMS, "UNDO: the SLOT of the latest ACT DONE that was not undone has again what it had ahead of it;");
        for (int which = 0; which < 9; which++) {
            ChanceBench x = new ChanceBench();
            x.wheel(1, 2, 1);
            act(x, which, 0);
            x.undo();
            Due.is("act " + which + " undone: none again", x.values(0), 0);
            Due.lawIs("act " + which + " undone: others stay", x, 1, "1:1/2 2:1/2");
            act(x, which, 1);
            x.undo();
            Due.lawIs("act " + which + " undone in a slot that it read", x, 1, "1:1/2 2:1/2");
            Due.is("count(0)", x.count(0), 1);
        }
        ChanceBench x = new ChanceBench();
        x.wheel(0, 1, 1);
        x.wheel(15, 1, 2);
        x.wheel(0, 1, 3);
        x.undo();
        Due.is("the latest one", x.value(0, 0), 1);
        x.undo();
        Due.is("the latest that was not undone", x.values(15), 0);
        Due.is("the first one stays", x.value(0, 0), 1);
        x.wheel(15, 1, 4);
        x.undo();
        Due.is("an act behind undone ones", x.values(15), 0);
        x.undo();
        Due.is("and then the first", x.values(0), 0);
    }

    private static void doneAgain() {
        Document.says(TERMS, "REDO: the latest one undone is DONE again,");
        for (int which = 0; which < 9; which++) {
            ChanceBench x = new ChanceBench();
            x.wheel(1, 2, 1);
            act(x, which, 1);
            String made = Due.law(x, 1);
            x.undo();
            Due.is("redo of act " + which, x.redo(), true);
            Due.lawIs("redo of act " + which, x, 1, made);
        }
        ChanceBench x = new ChanceBench();
        x.wheel(0, 1, 1);
        x.wheel(0, 1, 2);
        x.wheel(0, 1, 3);
        x.undo();
        x.undo();
        x.redo();
        Due.is("the latest undone first", x.value(0, 0), 2);
        x.redo();
        Due.is("then the one ahead", x.value(0, 0), 3);
        x.undo();
        Due.is("what was done again is undone", x.value(0, 0), 2);
        sheet(x, 0, 0, 1, 1, 3);
        x.undo();
        Due.tape(x, 9, 9, 9);
        x.redo();
        Due.lawIs("a sheet, with the bytes that it had", x, 0, "0:1/4 1:3/4");
        Due.is("the tape stays", x.count(1), 3);
    }

    private static void noOtherActBehind() {
        Document.says(TERMS, "as long as no other ACT was DONE behind that.");
        for (int which = 0; which < 9; which++) {
            ChanceBench x = new ChanceBench();
            x.wheel(1, 2, 1);
            x.wheel(0, 1, 1);
            x.wheel(0, 1, 2);
            x.undo();
            x.undo();
            act(x, which, 16);
            Due.is("redo() behind a refused act " + which, x.redo(), true);
            act(x, which, 5);
            Due.is("redo() behind act " + which, x.redo(), false);
            Due.is("the slot stays", x.value(0, 0), 1);
            Due.is("undo() of the other act", x.undo(), true);
            Due.is("its slot", x.values(5), 0);
            Due.is("redo() of the other act", x.redo(), true);
            Due.is("redo() of more", x.redo(), false);
        }
    }

    private static void thirtyActs() {
        Document.says(TERMS, "The latest 30 ACTS can be undone.");
        for (int acts : new int[] {29, 30, 31, 59, 60, 61, 95}) {
            ChanceBench x = new ChanceBench();
            for (int k = 1; k <= acts; k++) {
                x.wheel(0, 1, k);
            }
            int most = Math.min(acts, 30);
            for (int k = 1; k <= most; k++) {
                Due.is("undo " + k + " of " + acts, x.undo(), true);
                Due.is("the value then", x.values(0) == 0 ? 0 : x.value(0, 0), acts - k);
            }
            Due.is("undo of no more of " + acts, x.undo(), false);
            Due.is("the value stays", x.values(0) == 0 ? 0 : x.value(0, 0), acts - most);
            for (int k = 1; k <= most; k++) {
                Due.is("redo " + k + " of " + acts, x.redo(), true);
                Due.is("the value then", x.value(0, 0), acts - most + k);
            }
            Due.is("redo of no more of " + acts, x.redo(), false);
        }
        ChanceBench x = new ChanceBench();
        for (int k = 1; k <= 40; k++) {
            x.wheel(0, 1, k);
        }
        for (int k = 0; k < 30; k++) {
            x.undo();
        }
        for (int k = 1; k <= 35; k++) {
            x.wheel(1, 1, k);
        }
        Due.is("count(2), full once more", x.count(2), 30);
        for (int k = 0; k < 30; k++) {
            x.undo();
        }
        Due.is("value(1, 0), 30 of 35 undone", x.value(1, 0), 5);
        Due.is("value(0, 0), 30 of 40 undone", x.value(0, 0), 10);
    }

    private static void apartByDifferences() {
        Document.says(TERMS, "APART of two LAWS: half the sum of all differences of CHANCES");
        ChanceBench x = new ChanceBench();
        sheet(x, 0, 0, 1, 1, 2, 1);
        sheet(x, 1, 0, 1, 2, 1, 1);
        fractionIs("apart(0, 1)", x.apart(0, 1, 0), x.apart(0, 1, 1), "1/4");
        fractionIs("apart(1, 0)", x.apart(1, 0, 0), x.apart(1, 0, 1), "1/4");
        fractionIs("apart(0, 0)", x.apart(0, 0, 0), x.apart(0, 0, 1), "0/1");
    }

    private static void apartOfMissingValues() {
        Document.says(TERMS, "(VALUES that one has not have 0 there).");
        ChanceBench x = new ChanceBench();
        x.wheel(0, 2, 0);
        x.wheel(1, 2, 1);
        x.wheel(2, 24, -1000);
        x.wheel(3, 24, 977);
        fractionIs("apart(0, 1), one in common", x.apart(0, 1, 0), x.apart(0, 1, 1), "1/2");
        fractionIs("apart(2, 3), 48 values", x.apart(2, 3, 0), x.apart(2, 3, 1), "1/1");
        fractionIs("apart(3, 2), 48 values", x.apart(3, 2, 0), x.apart(3, 2, 1), "1/1");
        x.wheel(4, 3, 0);
        fractionIs("apart(0, 4), all of one in the other", x.apart(0, 4, 0), x.apart(0, 4, 1), "1/3");
    }

    private static void farOverAllNumbers() {
        Document.says(TERMS, "FAR: the sum, over all whole numbers t, of the difference of the CHANCES to be at most t.");
        ChanceBench x = new ChanceBench();
        x.wheel(0, 1, -1000);
        sheet(x, 1, -1000, 100, spaced(2, 20));
        fractionIs("far(0, 1), from -1000 to 999", x.far(0, 1, 0), x.far(0, 1, 1), "1000/1");
        x.wheel(2, 1, 1000);
        fractionIs("far(1, 2), from -1000 to 999", x.far(1, 2, 0), x.far(1, 2, 1), "1000/1");
        x.wheel(3, 24, -1000);
        x.wheel(4, 24, 977);
        fractionIs("far(3, 4), 48 values", x.far(3, 4, 0), x.far(3, 4, 1), "1977/1");
        x.wheel(5, 1, 0);
        x.wheel(6, 3, -1);
        fractionIs("far(5, 6), on both sides", x.far(5, 6, 0), x.far(5, 6, 1), "2/3");
    }

    private static void aboveForEach() {
        Document.says(TERMS, "A is ABOVE B, if for each t its CHANCE to be t or more is not less than B's;");
        ChanceBench x = new ChanceBench();
        x.wheel(0, 2, 0);
        sheet(x, 1, 0, 1, 1, 0, 1);
        Due.is("above(0, 0), alike for each t", x.above(0, 0), 1);
        Due.is("above(1, 0), alike but for one t", x.above(1, 0), 1);
        Due.is("above(0, 1), less for one t", x.above(0, 1), 0);
        x.wheel(2, 1, 1);
        Due.is("above(1, 2), crossing", x.above(1, 2), 0);
        Due.is("above(2, 1), crossing", x.above(2, 1), 0);
        x.wheel(3, 1, -1000);
        x.wheel(4, 1, -999);
        x.wheel(5, 1, 999);
        x.wheel(6, 1, 1000);
        Due.is("above(4, 3), at the least values", x.above(4, 3), 1);
        Due.is("above(3, 4), at the least values", x.above(3, 4), 0);
        Due.is("above(6, 5), at the greatest values", x.above(6, 5), 1);
        Due.is("above(5, 6), at the greatest values", x.above(5, 6), 0);
    }

    private static void aboveBoundIs(ChanceBench x, int a, int b, int bound) {
        Due.is("above(" + a + ", " + b + ")", x.above(a, b), 0);
        Due.is("bound()", x.bound(), bound);
    }

    private static void aboveBound() {
        Document.says(TERMS, "the BOUND is the least t with which it is not so.");
        ChanceBench x = new ChanceBench();
        x.wheel(0, 1, -1000);
        x.wheel(1, 1, 1000);
        x.wheel(2, 1, 999);
        x.wheel(3, 6, 1);
        x.wheel(4, 1, 3);
        aboveBoundIs(x, 0, 1, -999);
        aboveBoundIs(x, 2, 1, 1000);
        aboveBoundIs(x, 3, 4, 2);
        aboveBoundIs(x, 4, 3, 4);
        sheet(x, 5, 0, 10, 1, 1);
        sheet(x, 6, 0, 10, 1, 2);
        aboveBoundIs(x, 5, 6, 1);
        x.wheel(7, 1, 10);
        aboveBoundIs(x, 5, 7, 1);
        sheet(x, 8, 0, 1, 1, 0, 0, 1);
        sheet(x, 9, 0, 1, 1, 0, 0, 0, 1);
        aboveBoundIs(x, 8, 9, 4);
    }

    private static void spreadForEach() {
        Document.says(TERMS, "A is SPREAD as B is or less, if both have one mean, and for each whole t the mean of what a draw is over t"
                + " (0, if it is not) is not greater for A;");
        ChanceBench x = new ChanceBench();
        x.wheel(0, 1, 0);
        x.wheel(1, 3, -1);
        sheet(x, 2, -1, 1, 1, 2, 1);
        Due.is("spread(1, 1), alike for each t", x.spread(1, 1), 1);
        Due.is("spread(0, 1)", x.spread(0, 1), 1);
        Due.is("spread(2, 1)", x.spread(2, 1), 1);
        Due.is("spread(1, 2)", x.spread(1, 2), 0);
        sheet(x, 3, -1000, 100, spaced(2, 20));
        Due.is("spread(1, 3), the widest", x.spread(1, 3), 1);
        Due.is("spread(3, 1), the widest", x.spread(3, 1), 0);
        // of one mean, but each is over the other somewhere
        sheet(x, 4, -4, 9, 5, 4);
        sheet(x, 5, -5, 9, 4, 5);
        Due.is("spread(4, 5), crossing", x.spread(4, 5), 0);
        Due.is("spread(5, 4), crossing", x.spread(5, 4), 0);
        x.wheel(6, 1, -1);
        Due.is("spread(6, 0), unlike means", x.spread(6, 0), 2);
        // the means are alike for halves, too: no rounding of them
        x.coin(7, 1, 2);
        sheet(x, 8, -1, 3, 1, 1);
        Due.is("spread(7, 8), mean 1/2", x.spread(7, 8), 1);
        Due.is("spread(8, 7), mean 1/2", x.spread(8, 7), 0);
        Due.is("spread(0, 7), means of 0 and 1/2", x.spread(0, 7), 2);
        // 48 unlike values: odd ones of -23 to 23, and even ones of -24 to 24 but 0
        sheet(x, 9, -23, 2, spaced(24, 1));
        sheet(x, 10, -24, 2, 1, 1, 1, 1, 1, 1, 1, 1, 1, 1, 1, 1, 0, 1, 1, 1, 1, 1, 1, 1, 1, 1, 1, 1, 1);
        Due.is("spread(9, 10), 48 values", x.spread(9, 10), 1);
        Due.is("spread(10, 9), 48 values", x.spread(10, 9), 0);
    }

    private static void spreadBoundIs(ChanceBench x, int a, int b, int bound) {
        Due.is("spread(" + a + ", " + b + ")", x.spread(a, b), 0);
        Due.is("bound()", x.bound(), bound);
    }

    private static void spreadBound() {
        Document.says(TERMS, "the BOUND is the least t with which it is.");
        ChanceBench x = new ChanceBench();
        x.wheel(0, 1, 0);
        x.wheel(1, 3, -1);
        sheet(x, 2, -1000, 100, spaced(2, 20));
        spreadBoundIs(x, 1, 0, 0);
        spreadBoundIs(x, 2, 0, -999);
        spreadBoundIs(x, 2, 1, -999);
        sheet(x, 3, -4, 9, 5, 4);
        sheet(x, 4, -5, 9, 4, 5);
        spreadBoundIs(x, 3, 4, 1);
        spreadBoundIs(x, 4, 3, -4);
        x.wheel(5, 1, 999);
        sheet(x, 6, 998, 1, 1, 0, 1);
        spreadBoundIs(x, 6, 5, 999);
        spreadLateBound();
    }

    /** Over t the first is less at 1, alike from 2 to 10, and greater at 11 alone. */
    private static void spreadLateBound() {
        ChanceBench x = new ChanceBench();
        sheet(x, 0, 0, 1, 0, 2, 0, 0, 0, 0, 0, 0, 0, 0, 1, 0, 1);
        sheet(x, 1, 0, 1, 1, 0, 1, 0, 0, 0, 0, 0, 0, 0, 0, 2);
        Due.is("mean of both", x.mean(0, 0) + "/" + x.mean(0, 1), x.mean(1, 0) + "/" + x.mean(1, 1));
        spreadBoundIs(x, 0, 1, 11);
        spreadBoundIs(x, 1, 0, 1);
    }

    private static void jointSums() {
        Document.says(TERMS, "A JOINT of A and B gives CHANCES to pairs of VALUES, whose sums by each VALUE are those of A and of B.");
        for (int how = 0; how <= 1; how++) {
            for (int from : new int[] {0, 12, 23, 24, 100}) {
                for (int k = 0; k < 24; k++) {
                    sumOfFirstIs(how, from, k);
                    sumOfSecondIs(how, from, from + k);
                }
            }
        }
    }

    /** A joint of the weights 1 to 24 for 0 to 23, and of 24 values alike. */
    private static ChanceBench withJoint(int how, int from) {
        int[] rising = new int[24];
        for (int k = 0; k < 24; k++) {
            rising[k] = k + 1;
        }
        ChanceBench x = new ChanceBench();
        sheet(x, 0, 0, 1, rising);
        x.wheel(1, 24, from);
        x.joint(0, 1, how);
        return x;
    }

    private static void sumOfFirstIs(int how, int from, int v) {
        ChanceBench x = withJoint(how, from);
        NaiveBench.Frac total = NaiveBench.Frac.ZERO;
        for (int w = from; w < from + 24; w++) {
            total = total.plus(NaiveBench.Frac.of(x.pair(v, w, 0), x.pair(v, w, 1)));
        }
        fractionIs("the sum by " + v + " of the first", x.chance(0, v, 0), x.chance(0, v, 1), total.upper + "/" + total.lower);
    }

    private static void sumOfSecondIs(int how, int from, int w) {
        ChanceBench x = withJoint(how, from);
        NaiveBench.Frac total = NaiveBench.Frac.ZERO;
        for (int v = 0; v < 24; v++) {
            total = total.plus(NaiveBench.Frac.of(x.pair(v, w, 0), x.pair(v, w, 1)));
        }
        fractionIs("the sum by " + w + " of the second", x.chance(1, w, 0), x.chance(1, w, 1), total.upper + "/" + total.lower);
    }

    private static void northwest() {
        Document.says(TERMS, "NORTHWEST of two rows of what is left (of A, of B, each by rising VALUES): the first VALUE of A that has"
                + " something left and the first one of B that has get the lesser of both, and so on.");
        ChanceBench x = new ChanceBench();
        sheet(x, 0, 0, 1, 1, 1, 2);
        sheet(x, 1, 1, 1, 1, 2, 1);
        Due.is("joint(0, 1, 1)", x.joint(0, 1, 1), 4);
        pairsAre(x, "0,1:1/4 1,2:1/4 2,2:1/4 2,3:1/4", 0, 1);
        // both come to their end together, so no pair is given nothing
        sheet(x, 2, 5, 1, 1, 1);
        sheet(x, 3, 7, 1, 1, 1);
        Due.is("joint(2, 3, 1)", x.joint(2, 3, 1), 2);
        pairsAre(x, "5,7:1/2 6,8:1/2", 2, 3);
        x.wheel(4, 1, 0);
        Due.is("joint(4, 0, 1), one value", x.joint(4, 0, 1), 3);
        pairsAre(x, "0,0:1/4 0,1:1/4 0,2:1/2", 4, 0);
        Due.is("joint(4, 4, 1), one value each", x.joint(4, 4, 1), 1);
        pairsAre(x, "0,0:1/1", 4, 4);
    }

    private static void pairsAre(ChanceBench x, String want, int a, int b) {
        StringBuilder text = new StringBuilder();
        for (int i = 0; i < x.values(a); i++) {
            for (int j = 0; j < x.values(b); j++) {
                int v = x.value(a, i);
                int w = x.value(b, j);
                if (x.pair(v, w, 0) != 0) {
                    text.append(text.length() == 0 ? "" : " ").append(v + "," + w + ":" + x.pair(v, w, 0) + "/" + x.pair(v, w, 1));
                }
            }
        }
        Due.is("the pairs of " + a + " and " + b, text.toString(), want);
    }

    private static void joints() {
        Document.says(TERMS, "JOINTS: 0: for each VALUE of both the lesser CHANCE with itself; what is left then by NORTHWEST. 1: all by NORTHWEST.");
        ChanceBench x = new ChanceBench();
        sheet(x, 0, 0, 1, 1, 1, 2);
        sheet(x, 1, 1, 1, 1, 2, 1);
        Due.is("joint(0, 1, 0)", x.joint(0, 1, 0), 3);
        pairsAre(x, "0,3:1/4 1,1:1/4 2,2:1/2", 0, 1);
        Due.is("joint(0, 1, 1)", x.joint(0, 1, 1), 4);
        pairsAre(x, "0,1:1/4 1,2:1/4 2,2:1/4 2,3:1/4", 0, 1);
        x.wheel(2, 2, 10);
        for (int how = 0; how <= 1; how++) {
            Due.is("joint(0, 2, " + how + "), no value of both", x.joint(0, 2, how), 3);
            pairsAre(x, "0,10:1/4 1,10:1/4 2,11:1/2", 0, 2);
            Due.is("joint(0, 0, " + how + "), all of both", x.joint(0, 0, how), 3);
            pairsAre(x, "0,0:1/4 1,1:1/4 2,2:1/2", 0, 0);
        }
        // 1 and 2 with themselves leave 1/3 of 0 to both of 1 and 2
        x.wheel(3, 3, 0);
        x.wheel(4, 2, 1);
        Due.is("joint(3, 4, 0)", x.joint(3, 4, 0), 4);
        pairsAre(x, "0,1:1/6 0,2:1/6 1,1:1/3 2,2:1/3", 3, 4);
        Due.is("joint(4, 3, 0)", x.joint(4, 3, 0), 4);
        pairsAre(x, "1,0:1/6 1,1:1/3 2,0:1/6 2,2:1/3", 4, 3);
    }

    private static void treeFromPlaceZero() {
        Document.says(TERMS, "LOTS are bits.");
        ChanceBench x = new ChanceBench();
        x.coin(0, 1, 2);
        Due.tape(x, 0x80);
        x.draw(0);
        Due.is("taken(): one bit of eight", x.taken(), 1);
        Document.says(TERMS, "The TREE of a LAW: place 0 at depth 0 is open.");
        Due.is("open(0, 0)", x.open(0, 0), 1);
        x.wheel(1, 24, 0);
        Due.is("open(1, 0)", x.open(1, 0), 1);
        x.coin(2, 1, 1048576);
        Due.is("open(2, 0)", x.open(2, 0), 1);
        Due.is("leaf(2, 0, 0)", x.leaf(2, 0, 0), false);
    }

    private static void drawIs(ChanceBench x, int a, int value, int taken, int... bytes) {
        Due.tape(x, bytes);
        Due.is("draw(" + a + ") by " + java.util.Arrays.toString(bytes), x.draw(a), value);
        Due.is("taken()", x.taken(), taken);
    }

    private static void treeByLots() {
        Document.says(TERMS, "An open place u of depth k leads with LOT b to number 2 u + b of depth k + 1;");
        ChanceBench x = new ChanceBench();
        x.wheel(0, 8, 100);
        for (int b = 0; b < 8; b++) {
            drawIs(x, 0, 100 + b, 3, b << 5);
        }
        // fifths: five leaves of eight at depth 3, so the open ones there are 0 to 2
        x.wheel(1, 5, 10);
        for (int b = 0; b < 16; b++) {
            int number = b - 10;
            drawIs(x, 1, b < 10 ? 10 + b / 2 : number < 5 ? 10 + number : 10, b < 10 ? 3 : number < 5 ? 4 : 7, b << 4);
        }
    }

    private static void treeLeavesFirst() {
        Document.says(TERMS, "of these the first ones are LEAVES: one for each VALUE, by rising VALUES, in whose CHANCE, as a binary fraction");
        ChanceBench x = new ChanceBench();
        sheet(x, 0, -3, 3, 1, 2, 1);
        drawIs(x, 0, 0, 1, 0x00);
        drawIs(x, 0, -3, 2, 0x80);
        drawIs(x, 0, 3, 2, 0xC0);
        x.coin(1, 1, 3);
        drawIs(x, 1, 0, 1, 0x00);
        drawIs(x, 1, 1, 2, 0x80);
        drawIs(x, 1, 0, 3, 0xC0);
    }

    private static void treeDigitsThatEnd() {
        Document.says(TERMS, "(the one that does not end in 1s for ever),");
        ChanceBench x = new ChanceBench();
        x.coin(0, 1, 2);
        x.coin(1, 3, 4);
        for (int k = 0; k <= 60; k++) {
            Due.is("leaf(0, 1, " + k + ") of 1/2", x.leaf(0, 1, k), k == 1);
            Due.is("leaf(0, 0, " + k + ") of 1/2", x.leaf(0, 0, k), k == 1);
            Due.is("open(0, " + k + ") of halves", x.open(0, k), k == 0 ? 1 : 0);
            Due.is("leaf(1, 1, " + k + ") of 3/4", x.leaf(1, 1, k), k == 1 || k == 2);
            Due.is("leaf(1, 0, " + k + ") of 1/4", x.leaf(1, 0, k), k == 2);
        }
    }

    private static void treeDigitsAtDepth() {
        Document.says(TERMS, "the digit k + 1 behind the point is 1;");
        ChanceBench x = new ChanceBench();
        x.coin(0, 5, 7);
        for (int k = 1; k <= 60; k++) {
            // 5/7 is .101 for ever, and 2/7 is .010
            Due.is("leaf(0, 1, " + k + ") of 5/7", x.leaf(0, 1, k), k % 3 != 2);
            Due.is("leaf(0, 0, " + k + ") of 2/7", x.leaf(0, 0, k), k % 3 == 2);
        }
    }

    private static void treeOpenPlaces() {
        Document.says(TERMS, "the others are open, numbered from 0 on.");
        int open = 1;
        for (int k = 1; k <= 60; k++) {
            ChanceBench x = new ChanceBench();
            x.wheel(0, 24, 0);
            int leaves = 0;
            for (int v = 0; v < 24; v++) {
                leaves += x.leaf(0, v, k) ? 1 : 0;
            }
            open = 2 * open - leaves;
            Due.is("open(0, " + k + ")", x.open(0, k), open);
        }
        ChanceBench x = new ChanceBench();
        x.wheel(1, 3, 1);
        // depth 2 has three leaves and one open place, whose number is 0 again
        drawIs(x, 1, 1, 4, 0xC0);
        drawIs(x, 1, 2, 4, 0xD0);
        drawIs(x, 1, 3, 4, 0xE0);
    }

    private static void treeOfOneValue() {
        Document.says(TERMS, "(A LAW of one VALUE has its LEAF at depth 0.)");
        ChanceBench x = new ChanceBench();
        x.wheel(0, 1, -7);
        Due.is("leaf(0, -7, 0)", x.leaf(0, -7, 0), true);
        Due.is("leaf(0, -7, 1)", x.leaf(0, -7, 1), false);
        Due.is("leaf(0, -7, 60)", x.leaf(0, -7, 60), false);
        Due.is("leaf(0, 0, 0)", x.leaf(0, 0, 0), false);
        Due.is("open(0, 0)", x.open(0, 0), 0);
        Due.is("open(0, 1)", x.open(0, 1), 0);
        drawIs(x, 0, -7, 0);
        drawIs(x, 0, -7, 0, 255);
    }

    private static void drawnTillALeaf() {
        Document.says(TERMS, "DRAWN by LOTS: one goes on from place 0 till a LEAF is met.");
        ChanceBench x = new ChanceBench();
        x.coin(0, 1, 1024);
        drawIs(x, 0, 0, 1, 0, 0);
        drawIs(x, 0, 0, 10, 255, 0x80);
        drawIs(x, 0, 1, 10, 255, 0xC0);
        drawIs(x, 0, 1, 10, 255, 255);
        drawIs(x, 0, 5000, 8, 255);
    }

    private static void diceFaces() {
        Document.onlyLeadsIn(TERMS, "DICE.");
        Document.says(TERMS, "A die has faces, whole numbers in rising order, as often as they stand.");
        ChanceBench x = new ChanceBench();
        sheet(x, 0, -1000, 100, new int[] {1, 0, 0, 0, 0, 0, 0, 0, 0, 0, 0, 0, 0, 0, 0, 0, 0, 0, 0, 0, 2});
        Due.is("pairs(0, 1, 3)", x.pairs(0, 1, 3), 1);
        Due.is("the die", Due.dice(x, 0, 1, 3), "0 | -1000 1000 1000");
        Due.is("pairs(0, 3, 1)", x.pairs(0, 3, 1), 1);
        Due.is("the die", Due.dice(x, 0, 3, 1), "0 2000 2000 | -1000");
        Due.is("pairs(0, 6, 1)", x.pairs(0, 6, 1), 1);
        Due.is("the die", Due.dice(x, 0, 6, 1), "0 0 2000 2000 2000 2000 | -1000");
        Due.is("pairs(0, 6, 2)", x.pairs(0, 6, 2), 1);
        Due.is("the die", Due.dice(x, 0, 6, 2), "0 0 2000 2000 2000 2000 | -1000 -1000");
    }

    private static void diceOfALaw() {
        Document.says(TERMS, "A pair of dice, of n and m faces, is one of a LAW, if its throws' sum has that LAW, and the first one's least face is 0.");
        ChanceBench x = new ChanceBench();
        x.wheel(0, 4, 7);
        Due.is("pairs(0, 2, 2)", x.pairs(0, 2, 2), 2);
        Due.is("pair 0", Due.dice(x, 0, 2, 2), "0 1 | 7 9");
        Due.is("pair 1", Due.dice(x, 1, 2, 2), "0 2 | 7 8");
        Due.is("pairs(0, 2, 3), 6 throws are no 4", x.pairs(0, 2, 3), 0);
        Due.is("pairs(0, 4, 2), 8 throws", x.pairs(0, 4, 2), 3);
        Due.is("pair 0", Due.dice(x, 0, 4, 2), "0 0 1 1 | 7 9");
        Due.is("pair 1", Due.dice(x, 1, 4, 2), "0 0 2 2 | 7 8");
        Due.is("pair 2", Due.dice(x, 2, 4, 2), "0 1 2 3 | 7 7");
        x.times(1, 0, -1, 0);
        Due.is("pairs(1, 2, 2), below 0", x.pairs(1, 2, 2), 2);
        Due.is("pair 0", Due.dice(x, 0, 2, 2), "0 1 | -10 -8");
        sheet(x, 2, 0, 1, 1, 1, 0, 2);
        Due.is("pairs(2, 2, 2), four throws, but no dice", x.pairs(2, 2, 2), 0);
    }

    private static void diceInOrder() {
        Document.says(TERMS, "PAIRS are in order by the first die's faces (by the first face in which they are unlike).");
        ChanceBench x = new ChanceBench();
        x.wheel(0, 24, 0);
        Due.is("pairs(0, 6, 4)", x.pairs(0, 6, 4), 9);
        rises(x, 9, 6);
        x.wheel(1, 6, 0);
        x.sum(1, 1, 1);
        Due.is("pairs(1, 6, 6)", x.pairs(1, 6, 6), 3);
        rises(x, 3, 6);
        x.coin(2, 1, 2);
        x.sum(2, 2, 2);
        x.sum(2, 2, 2);
        Due.is("pairs(2, 4, 4)", x.pairs(2, 4, 4), 1);
        x.wheel(3, 2, 0);
        x.wheel(4, 1, 0);
        Due.is("pairs(3, 6, 6) of a coin", x.pairs(3, 6, 6), 2);
        Due.is("pair 0", Due.dice(x, 0, 6, 6), "0 0 0 0 0 0 | 0 0 0 1 1 1");
        Due.is("pair 1", Due.dice(x, 1, 6, 6), "0 0 0 1 1 1 | 0 0 0 0 0 0");
    }

    private static void rises(ChanceBench x, int pairs, int n) {
        for (int i = 1; i < pairs; i++) {
            int k = 0;
            while (k < n - 1 && x.face(i - 1, 0, k) == x.face(i, 0, k)) {
                k++;
            }
            Due.is("pair " + (i - 1) + " is ahead of pair " + i, x.face(i - 1, 0, k) < x.face(i, 0, k), true);
        }
    }

    private static void ringBeats(ChanceBench x, long want) {
        Due.tape(x, 0, 1, 2);
        Due.is("ring(2)", x.ring(2), want);
    }

    /** 3; 2 or 5; 1 or 4: the first beats the second by the chance of 2, the third the first by that of 4. */
    private static void beatsAboveAHalf() {
        Document.says(TERMS, "A beats B, if of both drawn apart the CHANCE that A's is greater is above 1 / 2.");
        ChanceBench x = new ChanceBench();
        x.wheel(0, 1, 3);
        x.coin(1, 524287, 1048576);
        x.times(1, 1, 3, 2);
        x.coin(2, 524289, 1048576);
        x.times(2, 2, 3, 1);
        ringBeats(x, 1);
        fractionIs("beats(0, 1), just above", x.beats(0, 1, 0), x.beats(0, 1, 1), "524289/1048576");
        fractionIs("beats(2, 0), just above", x.beats(2, 0, 0), x.beats(2, 0, 1), "524289/1048576");
        x.coin(1, 1, 2);
        x.times(1, 1, 3, 2);
        fractionIs("beats(0, 1), a half", x.beats(0, 1, 0), x.beats(0, 1, 1), "1/2");
        ringBeats(x, 0);
        x.undo();
        x.undo();
        ringBeats(x, 1);
        x.coin(2, 1, 2);
        x.times(2, 2, 3, 1);
        ringBeats(x, 0);
    }

    private static void throwsChangeNothing() {
        Document.says(TERMS, "A call that throws changes nothing.");
        Twins.isThrown("value(0, 6)", x -> x.value(0, 6));
        Twins.isThrown("chance(0, 1, 2)", x -> x.chance(0, 1, 2));
        Twins.isThrown("below(9, 1, 0)", x -> x.below(BARE, 1, 0));
        Twins.isThrown("mean(0, 2)", x -> x.mean(0, 2));
        Twins.isThrown("variance(0, 2)", x -> x.variance(0, 2));
        Twins.isThrown("apart(2, 1, 2)", x -> x.apart(2, 1, 2));
        Twins.isThrown("far(2, 1, 2)", x -> x.far(2, 1, 2));
        Twins.isThrown("pair(1, 1, 2)", x -> x.pair(1, 1, 2));
        Twins.isThrown("open(0, 61)", x -> x.open(0, 61));
        Twins.isThrown("leaf(0, 1, 61)", x -> x.leaf(0, 1, 61) ? 1 : 0);
        Twins.isThrown("lots(0, 41, 0)", x -> x.lots(0, 41, 0));
        Twins.isThrown("lots(0, 40, 2)", x -> x.lots(0, 40, 2));
        Twins.isThrown("draw(9)", x -> x.draw(BARE));
        Twins.isThrown("face(2, 0, 0)", x -> x.face(2, 0, 0));
        Twins.isThrown("beats(0, 1, 2)", x -> x.beats(0, 1, 2));
        Twins.isThrown("beats(0, 9, 0)", x -> x.beats(0, BARE, 0));
    }

    private static void fiveHundredTwelveCalls() {
        Document.says(Document.WHAT_IT_IS, "An object is used for at most 512 calls after it has been made; what later calls answer is free.");
        ChanceBench x = new ChanceBench();
        for (int call = 1; call <= 511; call++) {
            Due.is("wheel, call " + call, x.wheel(call % 16, 1 + call % 24, call), true);
        }
        Due.is("value(15, 7), call 512", x.value(15, 7), 518);
        ChanceBench y = new ChanceBench();
        y.wheel(0, 24, 0);
        for (int call = 2; call <= 511; call++) {
            Due.is("pairs(0, 4, 6), call " + call, y.pairs(0, 4, 6), 9);
        }
        Due.is("face(8, 0, 3), call 512", y.face(8, 0, 3), 18);
        ChanceBench z = new ChanceBench();
        for (int call = 1; call <= 511; call++) {
            z.feed(1, 1, 1, 1, 1);
        }
        Due.is("count(1), call 512", z.count(1), 200);
    }
}
