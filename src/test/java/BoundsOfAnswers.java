import java.util.function.IntToLongFunction;

/** Promises 15 to 37: each sentence that names a boundary case, by itself. */
final class BoundsOfAnswers {
    private static final int LOW = Due.LOW;
    private static final int HIGH = Due.HIGH;
    private static final int BARE = Twins.BARE;
    private static final int[] WITHOUT_LAW = {BARE, 16, -1, HIGH, LOW};
    private static final int[] OTHER_WHAT = {2, -1, HIGH, LOW};

    private BoundsOfAnswers() {
    }

    static void check() {
        valuesOfLaws();
        valuesWithoutLaw();
        valueByRisingValues();
        valueThatThereIsNot();
        chanceOfValues();
        chanceWithoutLaw();
        chanceOfAnotherWhat();
        belowBounds();
        meanBounds();
        varianceBounds();
        apartBounds();
        farBounds();
        aboveOrNot();
        aboveWithoutLaw();
        spreadOrNot();
        spreadOfUnlikeMeans();
        spreadWithoutLaw();
        boundOfTheLatest();
        boundAheadOfAny();
        jointMade();
        jointWithoutLaw();
        jointOfAnotherHow();
        jointStays();
        pairOfJoint();
        pairThatThereIsNot();
        pairOfAnotherWhat();
        openAtDepths();
        openWithoutLaw();
        openAtAnotherDepth();
        leafAtDepths();
        leafWithoutLawOrAtAnotherDepth();
        lotsUpToForty();
        drawByBits();
        drawWithoutEnough();
        drawWithoutLaw();
        takenByTheLatest();
        pairsOfOneToSixFaces();
        pairsWithoutLaw();
        pairsOfOtherFaces();
        pairsStay();
        faceOfPairs();
        faceThatThereIsNot();
        beatsBounds();
        ringEmptiesTheTape();
        ringOfLeastChance();
        ringOfNoneOrTooMany();
        ringWithoutLaw();
        ringOfAnotherWhat();
        countOfLaws();
        countOfBytes();
        countOfActsToUndo();
        countOfActsToRedo();
        countOfPairs();
        countOfJoint();
        countOfAnotherWhat();
    }

    private static void fractionIs(String call, IntToLongFunction byWhat, String want) {
        Due.fractionIs(call, byWhat.applyAsLong(0), byWhat.applyAsLong(1), want);
    }

    private static void valuesOfLaws() {
        Document.says(15, "How many VALUES a has;");
        ChanceBench x = new ChanceBench();
        x.wheel(0, 1, 0);
        x.wheel(15, 24, 0);
        Due.is("values(0) of one", x.values(0), 1);
        Due.is("values(15) of 24", x.values(15), 24);
    }

    private static void valuesWithoutLaw() {
        Document.says(15, "0 without a LAW.");
        ChanceBench x = Twins.rich();
        for (int a : WITHOUT_LAW) {
            Due.is("values(" + a + ")", x.values(a), 0);
        }
        Due.is("values(3), undone", x.values(3), 0);
    }

    private static void valueByRisingValues() {
        Document.says(16, "VALUE k by rising VALUES.");
        ChanceBench x = new ChanceBench();
        x.wheel(0, 24, 977);
        x.times(0, 0, -1, 0);
        for (int k = 0; k < 24; k++) {
            Due.is("value(0, " + k + ")", x.value(0, k), k - 1000);
        }
    }

    private static void valueThatThereIsNot() {
        Document.says(16, "NoSuchElementException: there is none such.");
        Twins.isThrown("value(0, 6)", x -> x.value(0, 6));
        Twins.isThrown("value(0, -1)", x -> x.value(0, -1));
        Twins.isThrown("value(0, most)", x -> x.value(0, HIGH));
        Twins.isThrown("value(0, least)", x -> x.value(0, LOW));
        for (int a : WITHOUT_LAW) {
            Twins.isThrown("value(" + a + ", 0)", x -> x.value(a, 0));
        }
        ChanceBench x = new ChanceBench();
        x.wheel(0, 24, 0);
        Due.is("value(0, 23) of 24", x.value(0, 23), 23);
        Due.thrown("value(0, 24) of 24", () -> x.value(0, 24));
    }

    private static void chanceOfValues() {
        Document.says(17, "CHANCE of v.");
        ChanceBench x = new ChanceBench();
        x.coin(0, 1, 1048576);
        x.wheel(1, 1, -1000);
        fractionIs("chance(0, 1)", what -> x.chance(0, 1, what), "1/1048576");
        fractionIs("chance(0, 0)", what -> x.chance(0, 0, what), "1048575/1048576");
        fractionIs("chance(1, -1000)", what -> x.chance(1, -1000, what), "1/1");
        for (int v : new int[] {-1, 2, HIGH, LOW}) {
            fractionIs("chance(0, " + v + ") of no value", what -> x.chance(0, v, what), "0/1");
        }
    }

    private static void chanceWithoutLaw() {
        Document.says(17, "NoSuchElementException: no LAW,");
        for (int a : WITHOUT_LAW) {
            for (int what = 0; what <= 1; what++) {
                int part = what;
                Twins.isThrown("chance(" + a + ", 1, " + what + ")", x -> x.chance(a, 1, part));
            }
            Twins.isThrown("below(" + a + ", 1, 0)", x -> x.below(a, 1, 0));
            Twins.isThrown("mean(" + a + ", 0)", x -> x.mean(a, 0));
            Twins.isThrown("variance(" + a + ", 0)", x -> x.variance(a, 0));
            Twins.isThrown("apart(" + a + ", 0, 0)", x -> x.apart(a, 0, 0));
            Twins.isThrown("apart(0, " + a + ", 0)", x -> x.apart(0, a, 0));
            Twins.isThrown("far(" + a + ", 0, 0)", x -> x.far(a, 0, 0));
            Twins.isThrown("far(0, " + a + ", 0)", x -> x.far(0, a, 0));
            Twins.isThrown("lots(" + a + ", 1, 0)", x -> x.lots(a, 1, 0));
            Twins.isThrown("beats(" + a + ", 0, 0)", x -> x.beats(a, 0, 0));
            Twins.isThrown("beats(0, " + a + ", 0)", x -> x.beats(0, a, 0));
        }
    }

    private static void chanceOfAnotherWhat() {
        Document.says(17, "or another what (likewise below).");
        for (int what : OTHER_WHAT) {
            Twins.isThrown("chance(0, 1, " + what + ")", x -> x.chance(0, 1, what));
            Twins.isThrown("chance(0, 9, " + what + ") of no value", x -> x.chance(0, 9, what));
            Twins.isThrown("below(0, 1, " + what + ")", x -> x.below(0, 1, what));
            Twins.isThrown("mean(0, " + what + ")", x -> x.mean(0, what));
            Twins.isThrown("variance(0, " + what + ")", x -> x.variance(0, what));
            Twins.isThrown("apart(0, 1, " + what + ")", x -> x.apart(0, 1, what));
            Twins.isThrown("far(0, 1, " + what + ")", x -> x.far(0, 1, what));
            Twins.isThrown("lots(0, 1, " + what + ")", x -> x.lots(0, 1, what));
            Twins.isThrown("beats(0, 1, " + what + ")", x -> x.beats(0, 1, what));
        }
    }

    private static void belowBounds() {
        Document.says(18, "CHANCE to be at most t.");
        ChanceBench x = new ChanceBench();
        Due.put(x, 0, -2, 2, 1, 2, 5);
        int[] at = {LOW, -1001, -3, -2, -1, 0, 1, 2, 3, 1001, HIGH};
        String[] due = {"0/1", "0/1", "0/1", "1/8", "1/8", "3/8", "3/8", "1/1", "1/1", "1/1", "1/1"};
        for (int k = 0; k < at.length; k++) {
            int t = at[k];
            fractionIs("below(0, " + t + ")", what -> x.below(0, t, what), due[k]);
        }
    }

    private static void meanBounds() {
        Document.says(19, "The mean.");
        ChanceBench x = new ChanceBench();
        x.wheel(0, 1, 1000);
        x.wheel(1, 1, -1000);
        fractionIs("mean(0), the greatest", what -> x.mean(0, what), "1000/1");
        fractionIs("mean(1), the least", what -> x.mean(1, what), "-1000/1");
        x.mix(2, 0, 1, 1, 2);
        fractionIs("mean(2) of 0", what -> x.mean(2, what), "0/1");
        x.coin(3, 1, 1048575);
        x.times(3, 3, 1, -1000);
        fractionIs("mean(3), below 0, of the greatest numbers", what -> x.mean(3, what), -(1000L * 1048575 - 1) + "/1048575");
    }

    private static void varianceBounds() {
        Document.says(20, "The mean of squares of how far a draw is from the mean.");
        ChanceBench x = new ChanceBench();
        x.wheel(0, 1, 1000);
        x.wheel(1, 1, -1000);
        fractionIs("variance(0) of one value", what -> x.variance(0, what), "0/1");
        x.mix(2, 0, 1, 1, 2);
        fractionIs("variance(2), the greatest", what -> x.variance(2, what), "1000000/1");
        x.coin(3, 1, 1048575);
        x.times(3, 3, 1, 999);
        fractionIs("variance(3), of the greatest numbers", what -> x.variance(3, what), "1048574/" + 1048575L * 1048575);
        x.coin(4, 524287, 1048575);
        x.times(4, 4, 1000, 0);
        x.times(4, 4, 2, -1000);
        fractionIs("variance(4), near the greatest", what -> x.variance(4, what), reduced(4000000L * 524287, 524288, 1048575L * 1048575));
    }

    private static String reduced(long one, long other, long lower) {
        java.math.BigInteger upper = java.math.BigInteger.valueOf(one).multiply(java.math.BigInteger.valueOf(other));
        NaiveBench.Frac f = new NaiveBench.Frac(upper, java.math.BigInteger.valueOf(lower));
        return f.upper + "/" + f.lower;
    }

    private static void apartBounds() {
        Document.says(21, "APART of a and b.");
        ChanceBench x = new ChanceBench();
        x.coin(0, 1, 1048576);
        x.coin(1, 1, 1048575);
        x.wheel(2, 24, 2);
        fractionIs("apart(0, 0), of a law and itself", what -> x.apart(0, 0, what), "0/1");
        fractionIs("apart(0, 1), the nearest", what -> x.apart(0, 1, what), "1/" + 1048576L * 1048575);
        fractionIs("apart(1, 0)", what -> x.apart(1, 0, what), "1/" + 1048576L * 1048575);
        fractionIs("apart(0, 2), nothing in common", what -> x.apart(0, 2, what), "1/1");
        fractionIs("apart(2, 0)", what -> x.apart(2, 0, what), "1/1");
    }

    private static void farBounds() {
        Document.says(22, "FAR of a and b.");
        ChanceBench x = new ChanceBench();
        x.wheel(0, 1, -1000);
        x.wheel(1, 1, 1000);
        x.coin(2, 1, 1048576);
        x.coin(3, 1, 1048575);
        fractionIs("far(0, 0), of a law and itself", what -> x.far(0, 0, what), "0/1");
        fractionIs("far(0, 1), the farthest", what -> x.far(0, 1, what), "2000/1");
        fractionIs("far(1, 0)", what -> x.far(1, 0, what), "2000/1");
        fractionIs("far(2, 3), the nearest", what -> x.far(2, 3, what), "1/" + 1048576L * 1048575);
        x.mix(4, 0, 1, 1, 2);
        x.wheel(5, 1, 0);
        fractionIs("far(4, 5), to both sides", what -> x.far(4, 5, what), "1000/1");
    }

    private static void aboveOrNot() {
        Document.says(23, "1: a is ABOVE b; 0: not;");
        ChanceBench x = new ChanceBench();
        x.coin(0, 1, 1048576);
        x.coin(1, 1, 1048575);
        Due.is("above(0, 0), itself", x.above(0, 0), 1);
        Due.is("above(1, 0), by the least", x.above(1, 0), 1);
        Due.is("above(0, 1), not by the least", x.above(0, 1), 0);
        x.wheel(2, 1, -1000);
        x.wheel(3, 1, 1000);
        Due.is("above(3, 2)", x.above(3, 2), 1);
        Due.is("above(2, 3)", x.above(2, 3), 0);
    }

    private static void aboveWithoutLaw() {
        Document.says(23, "NONE: one has no LAW.");
        for (int a : WITHOUT_LAW) {
            Twins.isNone("above(0, " + a + ")", x -> x.above(0, a));
            Twins.isNone("above(" + a + ", 0)", x -> x.above(a, 0));
            Twins.isNone("above(" + a + ", " + a + ")", x -> x.above(a, a));
        }
    }

    private static void spreadOrNot() {
        Document.says(24, "1: a is SPREAD as b is or less; 0: not, of one mean;");
        ChanceBench x = new ChanceBench();
        x.wheel(0, 1, 0);
        Due.put(x, 1, -1, 1, 1, 254, 1);
        Due.is("spread(0, 0), itself", x.spread(0, 0), 1);
        Due.is("spread(0, 1)", x.spread(0, 1), 1);
        Due.is("spread(1, 0)", x.spread(1, 0), 0);
        x.coin(2, 1, 2);
        x.times(3, 2, 1000, 0);
        x.times(3, 3, 2, -1000);
        Due.is("spread(0, 3), the widest", x.spread(0, 3), 1);
        Due.is("spread(3, 1), the widest", x.spread(3, 1), 0);
        Due.is("spread(3, 3)", x.spread(3, 3), 1);
    }

    private static void spreadOfUnlikeMeans() {
        Document.says(24, "2: their means are unlike;");
        ChanceBench x = new ChanceBench();
        x.coin(0, 1, 1048576);
        x.coin(1, 1, 1048575);
        Due.is("spread(0, 1), means that differ the least", x.spread(0, 1), 2);
        Due.is("spread(1, 0)", x.spread(1, 0), 2);
        Due.is("bound()", x.bound(), 5000);
        x.coin(2, 2, 1048576);
        Due.is("spread(0, 2)", x.spread(0, 2), 2);
    }

    private static void spreadWithoutLaw() {
        Document.says(24, "NONE: one has no LAW.");
        for (int a : WITHOUT_LAW) {
            Twins.isNone("spread(0, " + a + ")", x -> x.spread(0, a));
            Twins.isNone("spread(" + a + ", 0)", x -> x.spread(a, 0));
            Twins.isNone("spread(" + a + ", " + a + ")", x -> x.spread(a, a));
        }
    }

    private static void boundOfTheLatest() {
        Document.says(25, "The BOUND of the latest above() or spread() that was 0;");
        ChanceBench x = new ChanceBench();
        x.wheel(0, 2, 1);
        x.wheel(1, 2, 2);
        Due.put(x, 2, 0, 3, 1, 1);
        x.above(0, 1);
        Due.is("bound() of above", x.bound(), 2);
        x.spread(2, 0);
        Due.is("bound() of spread", x.bound(), 1);
        x.above(1, 0);
        Due.is("bound() behind an above of 1", x.bound(), 1);
        x.spread(0, 2);
        Due.is("bound() behind a spread of 1", x.bound(), 1);
        x.spread(0, 1);
        Due.is("bound() behind a spread of 2", x.bound(), 1);
        x.above(0, BARE);
        x.spread(BARE, 0);
        Due.is("bound() behind NONE", x.bound(), 1);
        x.above(0, 1);
        Due.is("bound() of above again", x.bound(), 2);
        x.undo();
        x.undo();
        Due.is("bound() when the laws are gone", x.bound(), 2);
    }

    private static void boundAheadOfAny() {
        Document.says(25, "5000 ahead of any.");
        ChanceBench x = new ChanceBench();
        Due.is("bound() of a new one", x.bound(), 5000);
        x.wheel(0, 2, 1);
        x.wheel(1, 2, 2);
        x.above(0, 0);
        x.above(1, 0);
        x.spread(0, 0);
        x.spread(0, 1);
        x.above(0, BARE);
        x.spread(0, BARE);
        Due.is("bound() behind none of 0", x.bound(), 5000);
    }

    private static void jointMade() {
        Document.says(26, "The JOINT how (0, 1) of a and b is made: how many pairs have a CHANCE above 0;");
        ChanceBench x = new ChanceBench();
        x.wheel(0, 1, 5);
        x.wheel(1, 24, 0);
        x.wheel(2, 24, -1000);
        int[] rising = new int[24];
        for (int k = 0; k < 24; k++) {
            rising[k] = k + 1;
        }
        Due.put(x, 3, 100, 1, rising);
        for (int how = 0; how <= 1; how++) {
            Due.is("joint(0, 0, " + how + "), one value", x.joint(0, 0, how), 1);
            Due.is("joint(1, 1, " + how + "), 24 alike", x.joint(1, 1, how), 24);
            Due.is("joint(1, 2, " + how + "), 24 unlike", x.joint(1, 2, how), 24);
            Due.is("joint(1, 3, " + how + "), the most: 47", x.joint(1, 3, how), 47);
            Due.is("count(5)", x.count(5), 47);
            Due.is("joint(0, 1, " + how + ")", x.joint(0, 1, how), 24);
            Due.is("joint(1, 0, " + how + ")", x.joint(1, 0, how), 24);
            Due.is("joint(0, 0, " + how + "), less than the one ahead", x.joint(0, 0, how), 1);
            for (int v = 0; v < 24; v++) {
                Due.is("pair(" + v + ", 5, 0), of the one made now", x.pair(v, 5, 0), v == 5 ? 1 : 0);
                Due.is("pair(5, " + v + ", 0), of the one made now", x.pair(5, v, 0), v == 5 ? 1 : 0);
            }
        }
    }

    private static void jointWithoutLaw() {
        Document.says(26, "NONE: one has no LAW,");
        for (int a : WITHOUT_LAW) {
            for (int how = 0; how <= 1; how++) {
                int way = how;
                Twins.isNone("joint(0, " + a + ", " + how + ")", x -> x.joint(0, a, way));
                Twins.isNone("joint(" + a + ", 0, " + how + ")", x -> x.joint(a, 0, way));
            }
        }
    }

    private static void jointOfAnotherHow() {
        Document.says(26, "or another how");
        for (int how : OTHER_WHAT) {
            Twins.isNone("joint(1, 2, " + how + ")", x -> x.joint(1, 2, how));
        }
    }

    private static void jointStays() {
        Document.says(26, "(there is the JOINT that there was).");
        ChanceBench x = new ChanceBench();
        Due.is("joint(0, 0, 0) of none", x.joint(0, 0, 0), -1);
        Due.is("count(5), none that there was", x.count(5), 0);
        x.wheel(0, 2, 0);
        x.wheel(1, 2, 1);
        x.joint(0, 1, 0);
        x.joint(0, 1, 2);
        x.joint(0, BARE, 1);
        x.joint(BARE, 0, 1);
        Due.is("count(5)", x.count(5), 2);
        fractionIs("pair(0, 2)", what -> x.pair(0, 2, what), "1/2");
        fractionIs("pair(1, 1)", what -> x.pair(1, 1, what), "1/2");
        fractionIs("pair(0, 1)", what -> x.pair(0, 1, what), "0/1");
    }

    private static void pairOfJoint() {
        Document.says(27, "CHANCE of the pair v (of the first LAW), w in the JOINT");
        ChanceBench x = new ChanceBench();
        x.wheel(0, 1, -1000);
        x.wheel(1, 2, 999);
        x.joint(0, 1, 1);
        fractionIs("pair(-1000, 999)", what -> x.pair(-1000, 999, what), "1/2");
        fractionIs("pair(-1000, 1000)", what -> x.pair(-1000, 1000, what), "1/2");
        fractionIs("pair(1000, -1000), the other way", what -> x.pair(1000, -1000, what), "0/1");
        x.coin(2, 1, 1048576);
        x.coin(3, 1, 1048575);
        x.joint(2, 3, 1);
        fractionIs("pair(0, 1), the least", what -> x.pair(0, 1, what), "1/" + 1048576L * 1048575);
        x.undo();
        x.undo();
        fractionIs("pair(0, 1), when the laws are gone", what -> x.pair(0, 1, what), "1/" + 1048576L * 1048575);
    }

    private static void pairThatThereIsNot() {
        Document.says(27, "(0 if there is none).");
        ChanceBench x = new ChanceBench();
        fractionIs("pair(0, 0) without a joint", what -> x.pair(0, 0, what), "0/1");
        x.wheel(0, 2, 0);
        x.joint(0, 0, 0);
        int[][] none = {{0, 1}, {1, 0}, {-1, 0}, {0, -1}, {2, 2}, {HIGH, HIGH}, {LOW, LOW}, {LOW, HIGH}};
        for (int[] p : none) {
            fractionIs("pair(" + p[0] + ", " + p[1] + ")", what -> x.pair(p[0], p[1], what), "0/1");
        }
    }

    private static void pairOfAnotherWhat() {
        Document.says(27, "NoSuchElementException: another what.");
        ChanceBench x = new ChanceBench();
        for (int what : OTHER_WHAT) {
            Twins.isThrown("pair(1, 1, " + what + ")", y -> y.pair(1, 1, what));
            Twins.isThrown("pair(9, 9, " + what + ") of none", y -> y.pair(9, 9, what));
            Due.thrown("pair(0, 0, " + what + ") without a joint", () -> x.pair(0, 0, what));
        }
    }

    private static void openAtDepths() {
        Document.says(28, "How many open places the TREE of a has at depth k (0 to 60).");
        ChanceBench x = new ChanceBench();
        x.coin(0, 1, 3);
        x.wheel(1, 23, 0);
        x.coin(2, 1, 1048576);
        x.wheel(3, 1, 7);
        for (int k = 0; k <= 60; k++) {
            Due.is("open(0, " + k + ") of thirds", x.open(0, k), 1);
        }
        // 2^11 leaves 1 by 23, so depth 60 is as depth 5: 32 places, and 23 leaves
        Due.is("open(1, 0) of 23rds", x.open(1, 0), 1);
        Due.is("open(1, 4) of 23rds", x.open(1, 4), 16);
        Due.is("open(1, 60) of 23rds", x.open(1, 60), 9);
        Due.is("open(2, 19), the last one", x.open(2, 19), 1);
        Due.is("open(2, 20)", x.open(2, 20), 0);
        Due.is("open(2, 60)", x.open(2, 60), 0);
        Due.is("open(3, 0) of one value", x.open(3, 0), 0);
        Due.is("open(3, 60) of one value", x.open(3, 60), 0);
    }

    private static void openWithoutLaw() {
        Document.says(28, "NoSuchElementException: no LAW,");
        for (int a : WITHOUT_LAW) {
            Twins.isThrown("open(" + a + ", 0)", x -> x.open(a, 0));
        }
    }

    private static void openAtAnotherDepth() {
        Document.says(28, "or another k.");
        for (int k : new int[] {-1, 61, HIGH, LOW}) {
            Twins.isThrown("open(0, " + k + ")", x -> x.open(0, k));
        }
    }

    private static void leafAtDepths() {
        Document.says(29, "Whether VALUE v has a LEAF at depth k (0 to 60).");
        ChanceBench x = new ChanceBench();
        x.coin(0, 1, 3);
        x.coin(1, 1, 1048576);
        x.wheel(2, 1, -1000);
        for (int k = 0; k <= 60; k++) {
            Due.is("leaf(0, 1, " + k + ") of 1/3", x.leaf(0, 1, k), k > 0 && k % 2 == 0);
            Due.is("leaf(0, 0, " + k + ") of 2/3", x.leaf(0, 0, k), k % 2 == 1);
            Due.is("leaf(1, 1, " + k + ") of 1/2^20", x.leaf(1, 1, k), k == 20);
            Due.is("leaf(1, 0, " + k + ") of the others", x.leaf(1, 0, k), k >= 1 && k <= 20);
            Due.is("leaf(2, -1000, " + k + ") of one value", x.leaf(2, -1000, k), k == 0);
        }
        for (int v : new int[] {2, -1, HIGH, LOW}) {
            Due.is("leaf(0, " + v + ", 1) of no value", x.leaf(0, v, 1), false);
            Due.is("leaf(2, " + v + ", 0) of no value", x.leaf(2, v, 0), false);
        }
    }

    private static void leafWithoutLawOrAtAnotherDepth() {
        Document.says(29, "NoSuchElementException likewise.");
        for (int a : WITHOUT_LAW) {
            Twins.isThrown("leaf(" + a + ", 1, 0)", x -> x.leaf(a, 1, 0) ? 1 : 0);
        }
        for (int k : new int[] {-1, 61, HIGH, LOW}) {
            Twins.isThrown("leaf(0, 1, " + k + ")", x -> x.leaf(0, 1, k) ? 1 : 0);
            Twins.isThrown("leaf(0, 9, " + k + ") of no value", x -> x.leaf(0, 9, k) ? 1 : 0);
        }
    }

    private static void lotsUpToForty() {
        Document.says(30, "How many LOTS are needed on average, those behind the first d (0 to 40) not counted.");
        ChanceBench x = new ChanceBench();
        x.coin(0, 1, 3);
        x.coin(1, 1, 1048576);
        x.wheel(2, 1, 7);
        fractionIs("lots(0, 0) of thirds", what -> x.lots(0, 0, what), "0/1");
        fractionIs("lots(0, 1)", what -> x.lots(0, 1, what), "1/1");
        fractionIs("lots(0, 39)", what -> x.lots(0, 39, what), ((1L << 39) - 1) + "/" + (1L << 38));
        fractionIs("lots(0, 40)", what -> x.lots(0, 40, what), ((1L << 40) - 1) + "/" + (1L << 39));
        fractionIs("lots(1, 20), all that are needed", what -> x.lots(1, 20, what), ((1L << 20) - 1) + "/" + (1L << 19));
        fractionIs("lots(1, 40), all that are needed", what -> x.lots(1, 40, what), ((1L << 20) - 1) + "/" + (1L << 19));
        fractionIs("lots(1, 19)", what -> x.lots(1, 19, what), ((1L << 19) - 1) + "/" + (1L << 18));
        fractionIs("lots(2, 0) of one value", what -> x.lots(2, 0, what), "0/1");
        fractionIs("lots(2, 40) of one value", what -> x.lots(2, 40, what), "0/1");
        for (int d : new int[] {41, -1, HIGH, LOW}) {
            for (int what = 0; what <= 1; what++) {
                int part = what;
                Twins.isThrown("lots(0, " + d + ", " + what + ")", y -> y.lots(0, d, part));
            }
        }
        Twins.isThrown("lots(0, 0, 2)", y -> y.lots(0, 0, 2));
    }

    private static void drawIs(ChanceBench x, int a, int value, int taken, int... bytes) {
        Due.tape(x, bytes);
        Due.is("draw(" + a + ") by " + bytes.length + " bytes", x.draw(a), value);
        Due.is("taken()", x.taken(), taken);
        Due.is("count(1)", x.count(1), 0);
    }

    private static int[] ones(int length, int last) {
        int[] bytes = new int[length];
        java.util.Arrays.fill(bytes, 255);
        bytes[length - 1] = last;
        return bytes;
    }

    private static void drawByBits() {
        Document.says(31, "a is DRAWN by the tape's bits (of each byte the highest first; the tape is empty then): the VALUE;");
        ChanceBench x = new ChanceBench();
        x.coin(0, 1, 2);
        drawIs(x, 0, 0, 1, 0x7F);
        drawIs(x, 0, 1, 1, 0x80);
        drawIs(x, 0, 1, 1, ones(200, 255));
        x.coin(1, 1, 256);
        drawIs(x, 1, 0, 8, 0xFE);
        drawIs(x, 1, 1, 8, 0xFF);
        drawIs(x, 1, 0, 7, 0xFD);
        x.wheel(2, 1, -9);
        drawIs(x, 2, -9, 0);
        drawIs(x, 2, -9, 0, ones(200, 255));
        // all ones stay on the one open place of thirds; at an even depth the leaf is that of 1
        x.coin(3, 1, 3);
        drawIs(x, 3, 1, 1600, ones(200, 0xFE));
        drawIs(x, 3, 0, 1599, ones(200, 0xFD));
    }

    private static void drawWithoutEnough() {
        Document.says(31, "5000, if they are not enough.");
        ChanceBench x = new ChanceBench();
        x.coin(0, 1, 512);
        drawIs(x, 0, 5000, 8, 255);
        drawIs(x, 0, 1, 9, 255, 128);
        drawIs(x, 0, 0, 9, 255, 0);
        drawIs(x, 0, 5000, 0);
        x.coin(1, 1, 3);
        drawIs(x, 1, 5000, 1600, ones(200, 255));
        x.coin(2, 1, 1048576);
        drawIs(x, 2, 5000, 16, 255, 255);
        // no leaf of a tree that was asked for ahead is met
        x.wheel(3, 24, 0);
        x.coin(4, 1, 512);
        for (int k = 0; k <= 8; k++) {
            x.leaf(3, 0, k);
            drawIs(x, 4, 5000, 8, 255);
        }
        drawIs(x, 2, 1, 20, 255, 255, 0xF0);
    }

    private static void drawWithoutLaw() {
        Document.says(31, "NoSuchElementException: no LAW (the tape stays).");
        for (int a : WITHOUT_LAW) {
            Twins.isThrown("draw(" + a + ")", x -> x.draw(a));
        }
        ChanceBench x = new ChanceBench();
        Due.thrown("draw(0) of a new one", () -> x.draw(0));
    }

    private static void takenByTheLatest() {
        Document.says(32, "How many LOTS the latest draw() took.");
        ChanceBench x = new ChanceBench();
        Due.is("taken() ahead of any", x.taken(), 0);
        x.coin(0, 1, 256);
        Due.tape(x, 255, 255);
        x.draw(0);
        Due.is("taken(), not all that there were", x.taken(), 8);
        Due.thrown("draw(9)", () -> x.draw(BARE));
        Due.is("taken() behind a draw that threw", x.taken(), 8);
        x.lots(0, 40, 0);
        x.open(0, 3);
        Due.is("taken() behind others", x.taken(), 8);
        x.draw(0);
        Due.is("taken() by a draw without bits", x.taken(), 0);
    }

    private static void pairsOfOneToSixFaces() {
        Document.says(33, "All PAIRS of dice of n and m faces (1 to 6 each) of a are found: how many;");
        ChanceBench x = new ChanceBench();
        x.wheel(0, 1, -1000);
        for (int n = 1; n <= 6; n++) {
            for (int m = 1; m <= 6; m++) {
                Due.is("pairs(0, " + n + ", " + m + ") of one value", x.pairs(0, n, m), 1);
            }
        }
        Due.is("six faces each", Due.dice(x, 0, 6, 6), "0 0 0 0 0 0 | -1000 -1000 -1000 -1000 -1000 -1000");
        x.wheel(1, 6, 0);
        Due.is("pairs(1, 1, 6)", x.pairs(1, 1, 6), 1);
        Due.is("one face and six", Due.dice(x, 0, 1, 6), "0 | 0 1 2 3 4 5");
        Due.is("pairs(1, 6, 1)", x.pairs(1, 6, 1), 1);
        Due.is("six faces and one", Due.dice(x, 0, 6, 1), "0 1 2 3 4 5 | 0");
        Due.is("pairs(1, 5, 5), where no weights fit", x.pairs(1, 5, 5), 0);
        Due.is("count(4), none", x.count(4), 0);
        x.wheel(2, 24, 0);
        Due.is("pairs(2, 4, 6) of 24 values", x.pairs(2, 4, 6), 9);
        Due.is("pairs(2, 6, 6): 36 throws are no 24", x.pairs(2, 6, 6), 0);
        x.coin(3, 1, 1048576);
        Due.is("pairs(3, 6, 6) of the greatest whole", x.pairs(3, 6, 6), 0);
        x.coin(4, 1, 36);
        Due.is("pairs(4, 6, 6): the weights would fit", x.pairs(4, 6, 6), 0);
    }

    private static void pairsWithoutLaw() {
        Document.says(33, "NONE: no LAW,");
        for (int a : WITHOUT_LAW) {
            Twins.isNone("pairs(" + a + ", 1, 1)", x -> x.pairs(a, 1, 1));
        }
    }

    private static void pairsOfOtherFaces() {
        Document.says(33, "or n, m not as told");
        for (int n : new int[] {0, 7, -1, HIGH, LOW}) {
            Twins.isNone("pairs(0, " + n + ", 6)", x -> x.pairs(0, n, 6));
            Twins.isNone("pairs(0, 6, " + n + ")", x -> x.pairs(0, 6, n));
            Twins.isNone("pairs(0, " + n + ", " + n + ")", x -> x.pairs(0, n, n));
        }
    }

    private static void pairsStay() {
        Document.says(33, "(there are the PAIRS that there were).");
        ChanceBench x = new ChanceBench();
        Due.is("pairs(0, 1, 1) of none", x.pairs(0, 1, 1), -1);
        Due.is("count(4), none that there were", x.count(4), 0);
        x.wheel(0, 6, 1);
        x.pairs(0, 3, 2);
        x.pairs(0, 3, 7);
        x.pairs(0, 0, 2);
        x.pairs(BARE, 6, 6);
        x.undo();
        Due.is("count(4)", x.count(4), 2);
        Due.is("pair 0", Due.dice(x, 0, 3, 2), "0 1 2 | 1 4");
        Due.is("pair 1", Due.dice(x, 1, 3, 2), "0 2 4 | 1 2");
        Due.thrown("face(0, 0, 3)", () -> x.face(0, 0, 3));
        Due.thrown("face(0, 1, 2)", () -> x.face(0, 1, 2));
    }

    private static void faceOfPairs() {
        Document.says(34, "Face k (from 0 on) of die 0 or 1 of PAIR i.");
        ChanceBench x = new ChanceBench();
        x.wheel(0, 6, 0);
        x.sum(0, 0, 0);
        x.pairs(0, 6, 6);
        Due.is("pair 0, the first", Due.dice(x, 0, 6, 6), "0 1 1 2 2 3 | 0 2 3 4 5 7");
        Due.is("pair 2, the last", Due.dice(x, 2, 6, 6), "0 2 3 4 5 7 | 0 1 1 2 2 3");
        x.pairs(0, 6, 6);
        Due.is("face(2, 1, 5), found once more", x.face(2, 1, 5), 3);
    }

    private static void faceThatThereIsNot() {
        Document.says(34, "NoSuchElementException: there is none such.");
        int[][] none = {
            {2, 0, 0}, {-1, 0, 0}, {HIGH, 0, 0}, {LOW, 0, 0}, {0, 2, 0}, {0, -1, 0}, {0, HIGH, 0}, {0, LOW, 0},
            {0, 0, 2}, {1, 0, 2}, {0, 1, 3}, {1, 1, 3}, {0, 0, -1}, {0, 1, -1}, {1, 1, -1}, {0, 0, HIGH}, {0, 1, LOW}
        };
        for (int[] n : none) {
            Twins.isThrown("face(" + n[0] + ", " + n[1] + ", " + n[2] + ")", x -> x.face(n[0], n[1], n[2]));
        }
        ChanceBench x = new ChanceBench();
        x.wheel(0, 1, 0);
        x.pairs(0, 6, 6);
        Due.thrown("face(0, 0, 6) of six", () -> x.face(0, 0, 6));
        Due.thrown("face(0, 1, 6) of six", () -> x.face(0, 1, 6));
        x.pairs(0, 1, 6);
        Due.thrown("face(0, 0, 1) of one", () -> x.face(0, 0, 1));
        Due.is("face(0, 1, 5) of six", x.face(0, 1, 5), 0);
        x.wheel(0, 7, 0);
        x.pairs(0, 1, 6);
        Due.thrown("face(0, 0, 0), none found", () -> x.face(0, 0, 0));
    }

    private static void beatsBounds() {
        Document.says(35, "CHANCE that of both, drawn apart, a's is greater.");
        ChanceBench x = new ChanceBench();
        x.wheel(0, 1, 1000);
        x.wheel(1, 1, -1000);
        fractionIs("beats(0, 1), always", what -> x.beats(0, 1, what), "1/1");
        fractionIs("beats(1, 0), never", what -> x.beats(1, 0, what), "0/1");
        fractionIs("beats(0, 0), alike is not greater", what -> x.beats(0, 0, what), "0/1");
        x.coin(2, 1, 1048576);
        x.coin(3, 1048575, 1048576);
        fractionIs("beats(2, 3), the least", what -> x.beats(2, 3, what), "1/" + (1L << 40));
        fractionIs("beats(2, 2), drawn apart", what -> x.beats(2, 2, what), "1048575/" + (1L << 40));
        x.wheel(4, 24, 0);
        fractionIs("beats(4, 4) of 24", what -> x.beats(4, 4, what), "23/48");
    }

    private static void ringIs(ChanceBench x, String label, String fraction, long all, int... slots) {
        Due.tape(x, slots);
        long upper = x.ring(0);
        Due.tape(x, slots);
        Due.fractionIs("ring, " + label, upper, x.ring(1), fraction);
        Due.tape(x, slots);
        Due.is("ring(2), " + label, x.ring(2), all);
    }

    private static void ringEmptiesTheTape() {
        Document.says(36, "The tape's bytes (empty then) are SLOTS:");
        ChanceBench x = new ChanceBench();
        x.wheel(0, 2, 0);
        x.wheel(15, 3, 0);
        ringIs(x, "slots 0 and 15", "1/6", 0, 0, 15);
        for (int what = 0; what <= 2; what++) {
            Due.tape(x, 0, 15);
            x.ring(what);
            Due.is("count(1) behind ring(" + what + ")", x.count(1), 0);
        }
    }

    private static void ringOfLeastChance() {
        Document.says(36, "the least CHANCE with which one's draw is greater than the next one's (the last one's than the first one's):"
                + " its upper number (what 0), lower (1), or whether each beats the next (2).");
        ChanceBench x = new ChanceBench();
        for (int s = 0; s < 16; s++) {
            x.wheel(s, 1, 16 - s);
        }
        x.wheel(15, 4, 0);
        // each is above the next but for the last link, the one that goes round
        ringIs(x, "the last one's than the first one's", "0/1", 0, 13, 14, 15);
        x.wheel(0, 4, 1);
        ringIs(x, "one slot: than its own", "3/8", 0, 0);
        ringIs(x, "one slot of one value", "0/1", 0, 1);
        Due.put(x, 1, 2, 1, 1, 0, 1, 0, 0, 0, 0, 1);
        Due.put(x, 2, 1, 1, 1, 0, 0, 0, 0, 1, 0, 1);
        Due.put(x, 3, 3, 1, 1, 0, 1, 0, 1);
        ringIs(x, "a ring", "5/9", 1, 1, 2, 3);
        ringIs(x, "a ring from its second", "5/9", 1, 2, 3, 1);
        ringIs(x, "the other way", "4/9", 0, 3, 2, 1);
        ringIs(x, "15 slots, five times round", "5/9", 1, 1, 2, 3, 1, 2, 3, 1, 2, 3, 1, 2, 3, 1, 2, 3);
        ringIs(x, "16 slots, the last than the first its own", "1/3", 0, 1, 2, 3, 1, 2, 3, 1, 2, 3, 1, 2, 3, 1, 2, 3, 1);
        nearestChances();
    }

    /** 0 than 1 and 2 than 3 are the least, and some 2^-79 apart: the lesser one is told, wherever it stands. */
    private static void nearestChances() {
        ChanceBench x = new ChanceBench();
        x.coin(0, 347159, 1040158);
        x.coin(1, 391329, 1047469);
        x.coin(2, 353383, 1040709);
        x.coin(3, 402786, 1048099);
        NaiveBench.Frac one = NaiveBench.Frac.of(347159L * (1047469 - 391329), 1040158L * 1047469);
        NaiveBench.Frac other = NaiveBench.Frac.of(353383L * (1048099 - 402786), 1040709L * 1048099);
        NaiveBench.Frac least = one.least(other);
        String fraction = least.upper + "/" + least.lower;
        ringIs(x, "near, from 0", fraction, 0, 0, 1, 2, 3);
        ringIs(x, "near, from 1", fraction, 0, 1, 2, 3, 0);
        ringIs(x, "near, from 2", fraction, 0, 2, 3, 0, 1);
        ringIs(x, "near, from 3", fraction, 0, 3, 0, 1, 2);
    }

    private static void ringOfNoneOrTooMany() {
        Document.says(36, "NONE: none or more than 16 bytes,");
        for (int what = 0; what <= 2; what++) {
            int part = what;
            Twins.isNoneAndEmpties("ring(" + what + ") of none", x -> x.end(0) ? x.ring(part) : 0);
            for (int n : new int[] {17, 20, 200}) {
                Twins.isNoneAndEmpties("ring(" + what + ") of " + n, x -> {
                    Due.tape(x, new int[n]);
                    return x.ring(part);
                });
            }
        }
        ChanceBench x = new ChanceBench();
        x.wheel(0, 2, 0);
        ringIs(x, "16 bytes", "1/4", 0, new int[16]);
        ringIs(x, "1 byte", "1/4", 0, new int[1]);
    }

    private static void ringWithoutLaw() {
        Document.says(36, "a SLOT without LAW,");
        int[][] rings = {{BARE}, {0, BARE}, {BARE, 0}, {0, 1, BARE}, {0, 16}, {16, 0}, {0, 255}, {128}, {0, 3}};
        for (int[] ring : rings) {
            for (int what = 0; what <= 2; what++) {
                int part = what;
                Twins.isNoneAndEmpties("ring(" + what + ") of " + java.util.Arrays.toString(ring), x -> {
                    Due.tape(x, ring);
                    return x.ring(part);
                });
            }
        }
        ChanceBench x = new ChanceBench();
        x.wheel(0, 1, 0);
        Due.tape(x, 0, 0, BARE);
        Due.is("ring(2) of 0, 0 and none: 0 is the least already", x.ring(2), -1);
    }

    private static void ringOfAnotherWhat() {
        Document.says(36, "another what.");
        for (int what : new int[] {3, -1, HIGH, LOW}) {
            Twins.isNoneAndEmpties("ring(" + what + ") of laws", x -> {
                Due.tape(x, 0, 1);
                return x.ring(what);
            });
            Twins.isNoneAndEmpties("ring(" + what + ") of none", x -> x.end(0) ? x.ring(what) : 0);
        }
    }

    private static void countOfLaws() {
        Document.says(37, "0 LAWS,");
        ChanceBench x = new ChanceBench();
        Due.is("count(0), none", x.count(0), 0);
        for (int s = 0; s < 16; s++) {
            x.wheel(s, 1, s);
            x.wheel(s, 6, s);
            Due.is("count(0)", x.count(0), s + 1);
        }
        x.undo();
        Due.is("count(0), where one has again what it had", x.count(0), 16);
        x.undo();
        Due.is("count(0), where one has none again", x.count(0), 15);
    }

    private static void countOfBytes() {
        Document.says(37, "1 bytes of the tape,");
        ChanceBench x = new ChanceBench();
        Due.is("count(1), none", x.count(1), 0);
        for (int k = 1; k <= 10; k++) {
            x.feed(0, 0, 0, 0, 0);
            Due.is("count(1)", x.count(1), 20 * k);
        }
        x.feed(0, 0, 0, 0, 0);
        Due.is("count(1), full", x.count(1), 200);
        x.end(1);
        Due.is("count(1)", x.count(1), 1);
    }

    private static void countOfActsToUndo() {
        Document.says(37, "2 ACTS that can be undone,");
        ChanceBench x = new ChanceBench();
        Due.is("count(2), none", x.count(2), 0);
        for (int k = 1; k <= 65; k++) {
            x.wheel(0, 1, k);
            Due.is("count(2) behind " + k + " acts", x.count(2), Math.min(k, 30));
        }
        x.undo();
        Due.is("count(2) behind an undo", x.count(2), 29);
        x.redo();
        Due.is("count(2) behind a redo", x.count(2), 30);
    }

    private static void countOfActsToRedo() {
        Document.says(37, "3 ACTS that can be done again,");
        ChanceBench x = new ChanceBench();
        for (int k = 1; k <= 31; k++) {
            x.wheel(0, 1, k);
        }
        Due.is("count(3), none", x.count(3), 0);
        for (int k = 1; k <= 30; k++) {
            x.undo();
            Due.is("count(3)", x.count(3), k);
        }
        x.undo();
        Due.is("count(3), all", x.count(3), 30);
        x.redo();
        Due.is("count(3) behind a redo", x.count(3), 29);
        x.wheel(0, 0, 1);
        Due.is("count(3) behind a refused act", x.count(3), 29);
        x.wheel(0, 6, 1);
        Due.is("count(3) behind another act", x.count(3), 0);
    }

    private static void countOfPairs() {
        Document.says(37, "4 PAIRS,");
        ChanceBench x = new ChanceBench();
        Due.is("count(4), none", x.count(4), 0);
        x.wheel(0, 24, 0);
        x.pairs(0, 4, 6);
        Due.is("count(4)", x.count(4), 9);
        x.pairs(0, 4, 4);
        Due.is("count(4), none again", x.count(4), 0);
    }

    private static void countOfJoint() {
        Document.says(37, "5 pairs of VALUES in the JOINT.");
        ChanceBench x = new ChanceBench();
        Due.is("count(5), none", x.count(5), 0);
        x.wheel(0, 24, 0);
        x.wheel(1, 1, 0);
        x.joint(0, 0, 1);
        Due.is("count(5)", x.count(5), 24);
        x.joint(1, 1, 1);
        Due.is("count(5), one", x.count(5), 1);
    }

    private static void countOfAnotherWhat() {
        Document.says(37, "NONE for another what.");
        for (int what : new int[] {6, -1, HIGH, LOW}) {
            Twins.isNone("count(" + what + ")", x -> x.count(what));
        }
    }
}
