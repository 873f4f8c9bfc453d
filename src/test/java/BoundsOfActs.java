/** Promises 1 to 14: each sentence that names a boundary case, by itself. */
final class BoundsOfActs {
    private static final int LOW = Due.LOW;
    private static final int HIGH = Due.HIGH;
    private static final int BARE = Twins.BARE;

    private BoundsOfActs() {
    }

    static void check() {
        newObjectHasNoLaws();
        newObjectHasAnEmptyTape();
        newObjectHasNoJoint();
        newObjectHasNoPairs();
        feedPutsTwentyBytes();
        feedOverTwoHundred();
        endKeepsTheFirstBytes();
        endOfTooMany();
        endBelowNone();
        sheetHasBytesWithoutSign();
        sheetEmptiesTheTape();
        sheetGoesByItsStep();
        sheetWithWeightsOfNone();
        sheetOfLeastAndGreatestStep();
        sheetForNoSlot();
        sheetOfAnotherStep();
        sheetRefused();
        wheelToItsLastValue();
        wheelOfOne();
        urnCountsTheMarked();
        urnOfTwentyEach();
        urnOfNone();
        urnOfOneToTenDraws();
        urnNotPutBack();
        coinThrown();
        coinOfAllParts();
        coinOfLeastAndMostParts();
        sumOfTwo();
        sumWithoutLaw();
        timesTheFactor();
        timesWithAdded();
        ofLesserAndGreater();
        ofSigns();
        ofAnotherWhat();
        mixOfTwo();
        mixOfAllParts();
        mixOfLeastAndMostParts();
        givenFromLowToHigh();
        undoDone();
        undoOfNothing();
        redoDone();
        redoOfNothing();
    }

    private static void newObjectHasNoLaws() {
        Document.says(1, "No LAWS,");
        ChanceBench x = new ChanceBench();
        Due.is("count(0)", x.count(0), 0);
        Due.is("count(2)", x.count(2), 0);
        Due.is("count(3)", x.count(3), 0);
        for (int a = 0; a < 16; a++) {
            int slot = a;
            Due.is("values(" + a + ")", x.values(a), 0);
            Due.thrown("mean(" + a + ", 0)", () -> x.mean(slot, 0));
        }
    }

    private static void newObjectHasAnEmptyTape() {
        Document.says(1, "an empty tape,");
        ChanceBench x = new ChanceBench();
        Due.is("count(1)", x.count(1), 0);
        Due.is("end(1)", x.end(1), false);
        Due.is("end(0)", x.end(0), true);
        Due.is("ring(0)", x.ring(0), -1);
        Due.is("sheet(0, 0, 1)", x.sheet(0, 0, 1), false);
        x.coin(0, 1, 2);
        Due.is("draw(0)", x.draw(0), 5000);
        Due.is("feed", x.feed(0, 0, 0, 0, 0), 20);
    }

    private static void newObjectHasNoJoint() {
        Document.says(1, "no JOINT,");
        ChanceBench x = new ChanceBench();
        Due.is("count(5)", x.count(5), 0);
        Due.fractionIs("pair(0, 0)", x.pair(0, 0, 0), x.pair(0, 0, 1), "0/1");
        Due.fractionIs("pair(-1, -1)", x.pair(-1, -1, 0), x.pair(-1, -1, 1), "0/1");
    }

    private static void newObjectHasNoPairs() {
        Document.says(1, "no PAIRS.");
        ChanceBench x = new ChanceBench();
        Due.is("count(4)", x.count(4), 0);
        Due.thrown("face(0, 0, 0)", () -> x.face(0, 0, 0));
        Due.thrown("face(0, 1, 0)", () -> x.face(0, 1, 0));
    }

    private static void feedPutsTwentyBytes() {
        Document.says(2, "Twenty bytes come behind the tape, of each number the highest first: how many it has;");
        ChanceBench x = new ChanceBench();
        Due.is("feed", x.feed(LOW, HIGH, -1, 0x01020304, 1), 20);
        x.sheet(0, 0, 1);
        Due.lawIs("the least number, the greatest one, -1 and others", x, 0,
                Due.weights(0, 1, 128, 0, 0, 0, 127, 255, 255, 255, 255, 255, 255, 255, 1, 2, 3, 4, 0, 0, 0, 1));
        Due.tape(x, 9);
        Due.is("feed behind one byte", x.feed(0x07000000, 0, 0, 0, 5), 21);
        x.sheet(0, 0, 1);
        Due.lawIs("behind the tape", x, 0, "0:3/7 1:1/3 20:5/21");
    }

    private static void feedOverTwoHundred() {
        Document.says(2, "NONE, and none come, if it would have more than 200.");
        ChanceBench x = new ChanceBench();
        x.feed(0x01020304, 0, 0, 0, 0);
        for (int k = 2; k <= 9; k++) {
            Due.is("feed " + k, x.feed(0, 0, 0, 0, 0), 20 * k);
        }
        Due.is("feed of 180, to 200", x.feed(0, 0, 0, 0, 6), 200);
        Due.is("feed of 200", x.feed(-1, -1, -1, -1, -1), -1);
        Due.is("count(1)", x.count(1), 200);
        x.sheet(0, 0, 1);
        Due.lawIs("the full tape is as it was", x, 0, "0:1/16 1:1/8 2:3/16 3:1/4 199:3/8");
        feedAt(181, -1, 181);
        feedAt(199, -1, 199);
        feedAt(180, 200, 200);
        feedAt(179, 199, 199);
    }

    private static void feedAt(int length, int answer, int lengthThen) {
        ChanceBench x = new ChanceBench();
        int[] bytes = new int[length];
        bytes[length - 1] = 3;
        Due.tape(x, bytes);
        Due.is("feed of " + length, x.feed(0, 0, 0, 0, 1), answer);
        Due.is("count(1) then", x.count(1), lengthThen);
        x.sheet(0, 0, 1);
        Due.lawIs("the tape then", x, 0, answer < 0 ? length - 1 + ":1/1" : length - 1 + ":3/4 " + (length + 19) + ":1/4");
    }

    private static void endKeepsTheFirstBytes() {
        Document.says(3, "The tape has its first n bytes alone: true;");
        ChanceBench x = new ChanceBench();
        Due.is("end(0) of none", x.end(0), true);
        x.feed(0x01020400, 0, 0, 0, 8);
        Due.is("end(20) of 20", x.end(20), true);
        Due.is("count(1)", x.count(1), 20);
        Due.is("end(19) of 20", x.end(19), true);
        x.feed(0, 0, 0, 0, 0);
        Due.is("end(2) of 39", x.end(2), true);
        Due.is("count(1)", x.count(1), 2);
        x.feed(0, 0, 0, 0, 0);
        x.sheet(0, 0, 1);
        Due.lawIs("what was cut off does not come again", x, 0, "0:1/3 1:2/3");
        x.feed(1, 1, 1, 1, 1);
        Due.is("end(0) of 20", x.end(0), true);
        Due.is("count(1)", x.count(1), 0);
        for (int k = 0; k < 10; k++) {
            x.feed(0, 0, 0, 0, 1);
        }
        Due.is("end(200) of 200", x.end(200), true);
        Due.is("count(1)", x.count(1), 200);
    }

    private static void endOfTooMany() {
        Document.says(3, "false, if it has not so many,");
        Twins.isFalse("end(6) of 5", x -> x.end(6));
        Twins.isFalse("end(most) of 5", x -> x.end(HIGH));
        ChanceBench x = new ChanceBench();
        Due.is("end(1) of none", x.end(1), false);
        for (int k = 0; k < 10; k++) {
            x.feed(0, 0, 0, 0, 1);
        }
        Due.is("end(201) of 200", x.end(201), false);
        Due.is("count(1)", x.count(1), 200);
    }

    private static void endBelowNone() {
        Document.says(3, "or n is below 0.");
        Twins.isFalse("end(-1) of 5", x -> x.end(-1));
        Twins.isFalse("end(least) of 5", x -> x.end(LOW));
        Due.is("end(-1) of none", new ChanceBench().end(-1), false);
    }

    private static void sheetHasBytesWithoutSign() {
        Document.onlyLeadsIn(4, "SLOT s:");
        Document.says(4, "the tape's bytes (0 to 255;");
        ChanceBench x = new ChanceBench();
        Due.tape(x, 0, 1, 127, 128, 255);
        Due.is("sheet(0, 0, 1)", x.sheet(0, 0, 1), true);
        Due.lawIs("0, 1, 127, 128 and 255", x, 0, "1:1/511 2:127/511 3:128/511 4:255/511");
    }

    private static void sheetEmptiesTheTape() {
        Document.says(4, "empty then)");
        ChanceBench x = Twins.rich();
        Due.is("sheet(4, 0, 1)", x.sheet(4, 0, 1), true);
        Due.is("count(1)", x.count(1), 0);
        Due.is("sheet(4, 0, 1) of none", x.sheet(4, 0, 1), false);
    }

    private static void sheetGoesByItsStep() {
        Document.says(4, "are WEIGHTS of from, from + step, ..");
        ChanceBench x = new ChanceBench();
        sheetIs(x, -1000, 100, "-1000:1/2 1000:1/2", withOnesAt(0, 20));
        sheetIs(x, -18900, 100, "-1000:1/2 1000:1/2", withOnesAt(179, 199));
        sheetIs(x, 801, 1, "801:1/2 1000:1/2", withOnesAt(0, 199));
        sheetIs(x, -1000, 1, "-1000:1/2 -801:1/2", withOnesAt(0, 199));
        sheetIs(x, 1000, 7, "1000:1/1", 9);
        sheetIs(x, -1000, 7, "-1000:1/1", 9);
    }

    private static int[] withOnesAt(int one, int other) {
        int[] bytes = new int[Math.max(one, other) + 1];
        bytes[one] = 1;
        bytes[other] = 1;
        return bytes;
    }

    private static void sheetIs(ChanceBench x, int from, int step, String law, int... bytes) {
        Due.put(x, 0, from, step, bytes);
        Due.lawIs("sheet(0, " + from + ", " + step + ")", x, 0, law);
    }

    private static void sheetWithWeightsOfNone() {
        Document.says(4, "(0: no such VALUE;");
        ChanceBench x = new ChanceBench();
        sheetIs(x, 1, 1, "2:1/3 4:2/3", 0, 1, 0, 2, 0);
        sheetIs(x, 999, 1, "999:1/2 1000:1/2", 1, 1, 0);
        sheetIs(x, -1001, 1, "-1000:1/1", 0, 4);
        sheetIs(x, 901, 100, "901:1/1", 4, 0, 0);
        int[] bytes = new int[200];
        for (int k = 0; k < 24; k++) {
            bytes[8 * k] = 1;
        }
        Due.put(x, 0, 0, 1, bytes);
        Due.is("values of 24 among 200 bytes", x.values(0), 24);
    }

    private static void sheetOfLeastAndGreatestStep() {
        Document.says(4, "step 1 to 100): true;");
        ChanceBench x = new ChanceBench();
        sheetIs(x, 5, 1, "5:1/2 6:1/2", 1, 1);
        sheetIs(x, 5, 100, "5:1/2 105:1/2", 1, 1);
    }

    private static void sheetForNoSlot() {
        Document.says(4, "false, and the tape is empty all the same, if there is no such SLOT,");
        Twins.isFalseAndEmpties("sheet(16, 0, 1)", x -> x.sheet(16, 0, 1));
        Twins.isFalseAndEmpties("sheet(-1, 0, 1)", x -> x.sheet(-1, 0, 1));
        Twins.isFalseAndEmpties("sheet(most, 0, 1)", x -> x.sheet(HIGH, 0, 1));
        Twins.isFalseAndEmpties("sheet(least, 0, 1)", x -> x.sheet(LOW, 0, 1));
    }

    private static void sheetOfAnotherStep() {
        Document.says(4, "step is not as told,");
        for (int step : new int[] {0, -1, 101, HIGH, LOW}) {
            Twins.isFalseAndEmpties("sheet(0, 0, " + step + ")", x -> x.sheet(0, 0, step));
            Twins.isFalseAndEmpties("sheet(0, 0, " + step + ") of one byte", x -> x.end(1) && x.sheet(0, 0, step));
        }
    }

    private static void sheetRefused() {
        Document.says(4, "or it is refused (likewise below).");
        Twins.isFalseAndEmpties("sheet(0, 997, 1): 1001", x -> x.sheet(0, 997, 1));
        Twins.isFalseAndEmpties("sheet(0, -1001, 1): -1001", x -> x.sheet(0, -1001, 1));
        Twins.isFalseAndEmpties("sheet(0, most, 1)", x -> x.sheet(0, HIGH, 1));
        Twins.isFalseAndEmpties("sheet(0, least, 1)", x -> x.sheet(0, LOW, 1));
        Twins.isFalseAndEmpties("sheet(0, 0, 1) of no bytes", x -> x.end(0) && x.sheet(0, 0, 1));
        Twins.isFalseAndEmpties("sheet(0, 0, 1) of bytes of 0", x -> {
            Due.tape(x, 0, 0, 0);
            return x.sheet(0, 0, 1);
        });
        Twins.isFalseAndEmpties("sheet(0, 0, 1) of 25 values", x -> {
            x.end(0);
            x.feed(-1, -1, -1, -1, -1);
            x.feed(-1, 0x01000000, 0, 0, 0);
            return x.sheet(0, 0, 1);
        });
        refusedBelow();
    }

    /** "Likewise below": false for no such slot, for each of the others that make a law; the tape is no part of them. */
    private static void refusedBelow() {
        for (int s : new int[] {16, -1, HIGH, LOW}) {
            Twins.isFalse("wheel(" + s + ", ..)", x -> x.wheel(s, 2, 0));
            Twins.isFalse("urn(" + s + ", ..)", x -> x.urn(s, 1, 1, 1, true));
            Twins.isFalse("coin(" + s + ", ..)", x -> x.coin(s, 1, 2));
            Twins.isFalse("sum(" + s + ", ..)", x -> x.sum(s, 0, 1));
            Twins.isFalse("times(" + s + ", ..)", x -> x.times(s, 0, 1, 0));
            Twins.isFalse("of(" + s + ", ..)", x -> x.of(s, 0, 1, 0));
            Twins.isFalse("mix(" + s + ", ..)", x -> x.mix(s, 0, 1, 1, 2));
            Twins.isFalse("given(" + s + ", ..)", x -> x.given(s, 0, 1, 6));
        }
        Twins.isFalse("wheel that is refused", x -> x.wheel(0, 25, 0));
        Twins.isFalse("urn that is refused", x -> x.urn(0, 4, 16, 10, true));
        Twins.isFalse("times that is refused", x -> x.times(0, 0, 1000, 0));
        Twins.isFalse("given that is refused", x -> x.given(0, 0, 7, 9));
    }

    private static void wheelToItsLastValue() {
        Document.onlyLeadsIn(5, "SLOT s:");
        Document.says(5, "n VALUES from .. from + n - 1, all alike");
        ChanceBench x = new ChanceBench();
        Due.is("wheel(0, 3, 998)", x.wheel(0, 3, 998), true);
        Due.lawIs("to 1000", x, 0, "998:1/3 999:1/3 1000:1/3");
        Due.is("wheel(0, 2, -1000)", x.wheel(0, 2, -1000), true);
        Due.lawIs("from -1000", x, 0, "-1000:1/2 -999:1/2");
        Due.is("wheel(0, 24, 977)", x.wheel(0, 24, 977), true);
        Due.is("its least one", x.value(0, 0), 977);
        Due.is("its greatest one", x.value(0, 23), 1000);
        Twins.isFalse("wheel(0, 3, 999)", y -> y.wheel(0, 3, 999));
        Twins.isFalse("wheel(0, 1, 1001)", y -> y.wheel(0, 1, 1001));
        Twins.isFalse("wheel(0, 2, -1001)", y -> y.wheel(0, 2, -1001));
        Twins.isFalse("wheel(0, 24, most): round to the least", y -> y.wheel(0, 24, HIGH));
        Twins.isFalse("wheel(0, 24, least)", y -> y.wheel(0, 24, LOW));
        Twins.isFalse("wheel(0, 25, 0)", y -> y.wheel(0, 25, 0));
        Twins.isFalse("wheel(0, most, least)", y -> y.wheel(0, HIGH, LOW));
        Twins.isFalse("wheel(0, most, -1000)", y -> y.wheel(0, HIGH, -1000));
    }

    private static void wheelOfOne() {
        Document.says(5, "(n from 1 on).");
        ChanceBench x = new ChanceBench();
        Due.is("wheel(0, 1, 7)", x.wheel(0, 1, 7), true);
        Due.lawIs("wheel(0, 1, 7)", x, 0, "7:1/1");
        Twins.isFalse("wheel(0, 0, 7)", y -> y.wheel(0, 0, 7));
        Twins.isFalse("wheel(0, -1, 7)", y -> y.wheel(0, -1, 7));
        Twins.isFalse("wheel(0, least, 7)", y -> y.wheel(0, LOW, 7));
    }

    private static void urnIs(String law, int marked, int others, int draws, boolean back) {
        ChanceBench x = new ChanceBench();
        String call = "urn(0, " + marked + ", " + others + ", " + draws + ", " + back + ")";
        Due.is(call, x.urn(0, marked, others, draws, back), true);
        Due.lawIs(call, x, 0, law);
    }

    private static void noUrn(int marked, int others, int draws) {
        for (boolean back : new boolean[] {true, false}) {
            Twins.isFalse("urn(0, " + marked + ", " + others + ", " + draws + ", " + back + ")",
                    x -> x.urn(0, marked, others, draws, back));
        }
    }

    private static void urnCountsTheMarked() {
        Document.onlyLeadsIn(6, "SLOT s:");
        Document.says(6, "how many of those drawn are marked, of so many marked and others");
        urnIs("0:4/9 1:4/9 2:1/9", 1, 2, 2, true);
        urnIs("0:1/3 1:2/3", 1, 2, 2, false);
        urnIs("1:2/3 2:1/3", 2, 1, 2, false);
        urnIs("2:1/1", 2, 3, 5, false);
        urnIs("10:1/1", 20, 0, 10, false);
        urnIs("10:1/1", 20, 0, 10, true);
        urnIs("0:1/1", 0, 20, 10, false);
        urnIs("0:1/1", 0, 20, 10, true);
        ChanceBench x = Twins.rich();
        Due.is("urn(0, 1, 1, 1, true) behind other acts", x.urn(0, 1, 1, 1, true), true);
        Due.lawIs("urn(0, 1, 1, 1, true) behind other acts", x, 0, "0:1/2 1:1/2");
        x.wheel(1, 25, 0);
        Due.is("urn(0, 1, 1, 1, true) behind a refused act", x.urn(0, 1, 1, 1, true), true);
    }

    private static void urnOfTwentyEach() {
        Document.says(6, "(0 to 20 each,");
        urnIs("0:1/2 1:1/2", 20, 20, 1, false);
        urnIs("0:1/2 1:1/2", 20, 20, 1, true);
        urnIs("0:1/1", 0, 20, 1, true);
        urnIs("1:1/1", 20, 0, 1, true);
        noUrn(-1, 20, 1);
        noUrn(21, 20, 1);
        noUrn(20, -1, 1);
        noUrn(20, 21, 1);
        noUrn(HIGH, 1, 1);
        noUrn(1, HIGH, 1);
        noUrn(LOW, 1, 1);
        noUrn(1, LOW, 1);
        noUrn(HIGH, HIGH, 1);
        noUrn(LOW, LOW, 1);
    }

    private static void urnOfNone() {
        Document.says(6, "not both 0),");
        noUrn(0, 0, 1);
        noUrn(0, 0, 10);
        urnIs("1:1/1", 1, 0, 1, false);
        urnIs("0:1/1", 0, 1, 1, false);
    }

    private static void urnOfOneToTenDraws() {
        Document.says(6, "so many draws (1 to 10),");
        urnIs("0:2/3 1:1/3", 1, 2, 1, true);
        urnIs(Due.weights(0, 1, 1, 10, 45, 120, 210, 252, 210, 120, 45, 10, 1), 1, 1, 10, true);
        urnIs(Due.weights(8, 1, 45, 20, 1), 10, 2, 10, false);
        noUrn(5, 5, 0);
        noUrn(20, 20, 11);
        noUrn(20, 0, 11);
        noUrn(5, 5, -1);
        noUrn(5, 5, HIGH);
        noUrn(5, 5, LOW);
    }

    private static void urnNotPutBack() {
        Document.says(6, "put back (on) or not (then no more draws than there are).");
        urnIs("1:1/1", 1, 2, 3, false);
        Twins.isFalse("urn(0, 1, 2, 4, false)", x -> x.urn(0, 1, 2, 4, false));
        urnIs("0:16/81 1:32/81 2:8/27 3:8/81 4:1/81", 1, 2, 4, true);
        urnIs("5:1/1", 5, 5, 10, false);
        Twins.isFalse("urn(0, 4, 5, 10, false)", x -> x.urn(0, 4, 5, 10, false));
        Twins.isFalse("urn(0, 0, 1, 2, false)", x -> x.urn(0, 0, 1, 2, false));
        urnIs("0:1/1", 0, 1, 2, true);
    }

    private static void coinIs(String law, int p, int q) {
        ChanceBench x = new ChanceBench();
        Due.is("coin(0, " + p + ", " + q + ")", x.coin(0, p, q), true);
        Due.lawIs("coin(0, " + p + ", " + q + ")", x, 0, law);
    }

    private static void noCoin(int p, int q) {
        Twins.isFalse("coin(0, " + p + ", " + q + ")", x -> x.coin(0, p, q));
    }

    private static void coinThrown() {
        Document.onlyLeadsIn(7, "SLOT s:");
        Document.says(7, "1 with CHANCE p / q, else 0");
        coinIs("0:2/3 1:1/3", 1, 3);
        coinIs("0:1/4 1:3/4", 9, 12);
    }

    private static void coinOfAllParts() {
        Document.says(7, "(0 <= p <= q,");
        coinIs("0:1/1", 0, 7);
        coinIs("1:1/1", 7, 7);
        coinIs("0:1/7 1:6/7", 6, 7);
        coinIs("0:1/1", 0, 1048576);
        coinIs("1:1/1", 1048576, 1048576);
        noCoin(-1, 7);
        noCoin(8, 7);
        noCoin(LOW, 7);
        noCoin(HIGH, 7);
        noCoin(1048577, 1048576);
    }

    private static void coinOfLeastAndMostParts() {
        Document.says(7, "q from 1 to 1048576).");
        coinIs("0:1/1", 0, 1);
        coinIs("1:1/1", 1, 1);
        coinIs("0:1048575/1048576 1:1/1048576", 1, 1048576);
        noCoin(0, 0);
        noCoin(-1, -1);
        noCoin(-2, -1);
        noCoin(0, 1048577);
        noCoin(1048577, 1048577);
        noCoin(2, 1048578);
        noCoin(0, HIGH);
        noCoin(LOW, LOW);
    }

    private static void sumOfTwo() {
        Document.onlyLeadsIn(8, "SLOT s:");
        Document.says(8, "the sum of draws from a and b, apart.");
        ChanceBench x = new ChanceBench();
        x.wheel(0, 2, -500);
        x.wheel(1, 1, -500);
        Due.is("sum(2, 0, 1)", x.sum(2, 0, 1), true);
        Due.lawIs("to -1000", x, 2, "-1000:1/2 -999:1/2");
        Due.is("sum(0, 0, 0), in its own slot", x.sum(0, 0, 0), true);
        Due.lawIs("of itself, apart", x, 0, "-1000:1/4 -999:1/2 -998:1/4");
        x.wheel(3, 2, 499);
        Due.is("sum(3, 3, 3)", x.sum(3, 3, 3), true);
        Due.is("to 1000", x.value(3, 2), 1000);
        x.wheel(4, 1, 1);
        Due.is("sum(4, 3, 4) to 1001", x.sum(4, 3, 4), false);
        x.times(4, 4, -1, 0);
        Due.is("sum(4, 0, 4) to -1001", x.sum(4, 0, 4), false);
        Due.lawIs("the slot stays", x, 4, "-1:1/1");
    }

    private static void sumWithoutLaw() {
        Document.says(8, "(False, too, if a or b has no LAW; likewise below.)");
        for (int a : new int[] {BARE, 16, -1, HIGH, LOW}) {
            Twins.isFalse("sum(0, " + a + ", 1)", x -> x.sum(0, a, 1));
            Twins.isFalse("sum(0, 1, " + a + ")", x -> x.sum(0, 1, a));
            Twins.isFalse("sum(0, " + a + ", " + a + ")", x -> x.sum(0, a, a));
            Twins.isFalse("times(0, " + a + ", 1, 0)", x -> x.times(0, a, 1, 0));
            Twins.isFalse("times(0, " + a + ", 0, 0)", x -> x.times(0, a, 0, 0));
            for (int what = 0; what <= 2; what++) {
                int rule = what;
                Twins.isFalse("of(0, " + a + ", 1, " + what + ")", x -> x.of(0, a, 1, rule));
                Twins.isFalse("of(0, 1, " + a + ", " + what + ")", x -> x.of(0, 1, a, rule));
            }
            Twins.isFalse("mix(0, " + a + ", 1, 0, 1)", x -> x.mix(0, a, 1, 0, 1));
            Twins.isFalse("mix(0, 1, " + a + ", 1, 1)", x -> x.mix(0, 1, a, 1, 1));
            Twins.isFalse("given(0, " + a + ", least, most)", x -> x.given(0, a, LOW, HIGH));
        }
    }

    private static void timesIs(String law, int of, int k, int add) {
        ChanceBench x = new ChanceBench();
        x.wheel(0, 2, of);
        Due.is("times(1, 0, " + k + ", " + add + ")", x.times(1, 0, k, add), true);
        Due.lawIs("times(1, 0, " + k + ", " + add + ")", x, 1, law);
    }

    /** Of a law of the values of and of + 1, or of the first of them alone. */
    private static void noTimes(int of, int k, int add) {
        for (int n = 1; n <= 2; n++) {
            ChanceBench x = new ChanceBench();
            x.wheel(0, n, of);
            x.wheel(1, 1, 3);
            Due.is("times(1, 0, " + k + ", " + add + ") of " + of + ".. ", x.times(1, 0, k, add), false);
            Due.lawIs("the slot stays", x, 1, "3:1/1");
            Due.is("and no act was done", x.count(2), 2);
        }
    }

    private static void timesTheFactor() {
        Document.onlyLeadsIn(9, "SLOT s:");
        Document.says(9, "k times a draw from a (k -1000 to 1000),");
        timesIs("0:1/2 1000:1/2", 0, 1000, 0);
        timesIs("-1000:1/2 0:1/2", 0, -1000, 0);
        timesIs("0:1/1", 5, 0, 0);
        timesIs("-6:1/2 -5:1/2", 5, -1, 0);
        noTimes(0, 1001, 0);
        noTimes(0, -1001, 0);
        noTimes(0, HIGH, 0);
        noTimes(0, LOW, 0);
        noTimes(-999, 2, 0);
        noTimes(1, 1000, 1);
        noTimes(1, -1000, -1);
        noTimes(1, 1001, -1001);
        noTimes(999, 1000, 0);
        noTimes(-1000, -1000, 2000);
    }

    private static void timesWithAdded() {
        Document.says(9, "and add (-2000 to 2000) to it.");
        timesIs("-1000:1/2 -998:1/2", 500, 2, -2000);
        timesIs("999:1/2 1000:1/2", -1000, 1, 1999);
        timesIs("0:1/2 2:1/2", -1000, 2, 2000);
        timesIs("1000:1/1", -7, 0, 1000);
        timesIs("-1000:1/1", -7, 0, -1000);
        noTimes(-7, 0, 1001);
        noTimes(-7, 0, -1001);
        noTimes(600, 2, -2001);
        noTimes(-1000, 2, 2001);
        noTimes(5, 1, HIGH);
        noTimes(-5, 1, LOW);
        noTimes(5, 0, HIGH);
    }

    private static void ofIs(String law, int what) {
        ChanceBench x = new ChanceBench();
        x.wheel(0, 3, -1);
        x.wheel(1, 2, 0);
        Due.is("of(2, 0, 1, " + what + ")", x.of(2, 0, 1, what), true);
        Due.lawIs("of(2, 0, 1, " + what + ")", x, 2, law);
    }

    private static void ofLesserAndGreater() {
        Document.onlyLeadsIn(10, "SLOT s:");
        Document.says(10, "of draws from a and b, apart: the lesser (what 0), the greater one (1),");
        ofIs("-1:1/3 0:1/2 1:1/6", 0);
        ofIs("0:1/3 1:2/3", 1);
        ChanceBench x = new ChanceBench();
        x.wheel(0, 2, 0);
        x.of(1, 0, 0, 0);
        Due.lawIs("lesser of one law, drawn twice", x, 1, "0:3/4 1:1/4");
        x.wheel(2, 1, -1000);
        x.wheel(3, 1, 1000);
        x.of(4, 2, 3, 0);
        Due.lawIs("lesser of -1000 and 1000", x, 4, "-1000:1/1");
        x.of(4, 2, 3, 1);
        Due.lawIs("greater of -1000 and 1000", x, 4, "1000:1/1");
    }

    private static void ofSigns() {
        Document.says(10, "the first one times the second one's sign (-1, 0, 1) (2).");
        ChanceBench x = new ChanceBench();
        x.wheel(0, 1, -1000);
        x.wheel(1, 3, -1);
        Due.is("of(2, 0, 1, 2)", x.of(2, 0, 1, 2), true);
        Due.lawIs("of -1, 0 and 1", x, 2, "-1000:1/3 0:1/3 1000:1/3");
        Due.put(x, 1, -1000, 100, withOnesAt(0, 20));
        Due.is("of(2, 0, 1, 2)", x.of(2, 0, 1, 2), true);
        Due.lawIs("of -1000 and 1000: the sign alone", x, 2, "-1000:1/2 1000:1/2");
        x.wheel(1, 1, 0);
        Due.is("of(2, 0, 1, 2)", x.of(2, 0, 1, 2), true);
        Due.lawIs("of 0", x, 2, "0:1/1");
        x.wheel(0, 1, 0);
        x.wheel(1, 2, 5);
        Due.is("of(2, 0, 1, 2)", x.of(2, 0, 1, 2), true);
        Due.lawIs("0 times a sign", x, 2, "0:1/1");
    }

    private static void ofAnotherWhat() {
        Document.says(10, "Another what: false.");
        for (int what : new int[] {3, -1, HIGH, LOW}) {
            Twins.isFalse("of(0, 1, 2, " + what + ")", x -> x.of(0, 1, 2, what));
        }
    }

    private static void mixIs(String law, int p, int q) {
        ChanceBench x = new ChanceBench();
        x.wheel(0, 2, 0);
        x.wheel(1, 3, 1);
        Due.is("mix(2, 0, 1, " + p + ", " + q + ")", x.mix(2, 0, 1, p, q), true);
        Due.lawIs("mix(2, 0, 1, " + p + ", " + q + ")", x, 2, law);
    }

    private static void noMix(int p, int q) {
        Twins.isFalse("mix(0, 1, 2, " + p + ", " + q + ")", x -> x.mix(0, 1, 2, p, q));
        Twins.isFalse("mix(0, 1, 1, " + p + ", " + q + ")", x -> x.mix(0, 1, 1, p, q));
    }

    private static void mixOfTwo() {
        Document.onlyLeadsIn(11, "SLOT s:");
        Document.says(11, "with CHANCE p / q from a, else from b");
        mixIs("0:1/8 1:3/8 2:1/4 3:1/4", 1, 4);
    }

    private static void mixOfAllParts() {
        Document.says(11, "(0 <= p <= q,");
        mixIs("1:1/3 2:1/3 3:1/3", 0, 9);
        mixIs("0:1/2 1:1/2", 9, 9);
        mixIs("0:4/9 1:13/27 2:1/27 3:1/27", 8, 9);
        noMix(-1, 9);
        noMix(10, 9);
        noMix(HIGH, 9);
        noMix(LOW, 9);
    }

    private static void mixOfLeastAndMostParts() {
        Document.says(11, "q from 1 to 1000).");
        mixIs("1:1/3 2:1/3 3:1/3", 0, 1);
        mixIs("0:1/2 1:1/2", 1, 1);
        mixIs("0:1/2000 1:667/2000 2:333/1000 3:333/1000", 1, 1000);
        noMix(0, 0);
        noMix(-1, -1);
        noMix(1, 1001);
        noMix(0, 1001);
        noMix(1001, 1001);
        noMix(0, HIGH);
        noMix(LOW, LOW);
    }

    private static void givenIs(String law, int low, int high) {
        ChanceBench x = new ChanceBench();
        Due.put(x, 0, 1, 1, 1, 2, 3, 6);
        Due.is("given(1, 0, " + low + ", " + high + ")", x.given(1, 0, low, high), true);
        Due.lawIs("given(1, 0, " + low + ", " + high + ")", x, 1, law);
    }

    private static void givenFromLowToHigh() {
        Document.onlyLeadsIn(12, "SLOT s:");
        Document.says(12, "a, given that it is low to high.");
        givenIs("2:2/5 3:3/5", 2, 3);
        givenIs("1:1/1", 1, 1);
        givenIs("4:1/1", 4, 4);
        givenIs("1:1/1", LOW, 1);
        givenIs("4:1/1", 4, HIGH);
        givenIs("1:1/12 2:1/6 3:1/4 4:1/2", 1, 4);
        givenIs("1:1/12 2:1/6 3:1/4 4:1/2", LOW, HIGH);
        Twins.isFalse("given(0, 0, 7, most)", x -> x.given(0, 0, 7, HIGH));
        Twins.isFalse("given(0, 0, least, 0)", x -> x.given(0, 0, LOW, 0));
        Twins.isFalse("given(0, 0, 4, 3)", x -> x.given(0, 0, 4, 3));
        Twins.isFalse("given(0, 0, most, least)", x -> x.given(0, 0, HIGH, LOW));
        Twins.isFalse("given(0, 15, -3, -2), between values", x -> x.given(0, 15, -3, -2));
    }

    private static void undoDone() {
        Document.says(13, "As told: true;");
        ChanceBench x = new ChanceBench();
        x.wheel(0, 2, 0);
        Due.is("undo()", x.undo(), true);
        Due.is("values(0)", x.values(0), 0);
        Due.is("count(2)", x.count(2), 0);
        Due.is("count(3)", x.count(3), 1);
    }

    private static void undoOfNothing() {
        Document.says(13, "false, if there is nothing to be undone.");
        ChanceBench x = new ChanceBench();
        Due.is("undo() of a new one", x.undo(), false);
        Due.is("count(3)", x.count(3), 0);
        x.wheel(0, 25, 0);
        Due.is("undo() behind a refused act", x.undo(), false);
        x.wheel(0, 2, 0);
        x.undo();
        Due.is("undo() of none left", x.undo(), false);
        Due.is("count(2)", x.count(2), 0);
        Due.is("count(3)", x.count(3), 1);
        Due.is("count(0)", x.count(0), 0);
        Due.is("redo()", x.redo(), true);
        Due.is("undo() of what was done again", x.undo(), true);
        Due.is("undo() of none left", x.undo(), false);
        Twins.isFalse("undo() of none left, and all done again", y -> {
            int done = 0;
            while (done < 9 && y.undo()) {
                done++;
            }
            boolean more = y.undo();
            for (int k = 0; k < done; k++) {
                y.redo();
            }
            return more || done != 4;
        });
    }

    private static void redoDone() {
        Document.says(14, "As told: true;");
        ChanceBench x = new ChanceBench();
        x.wheel(0, 2, 0);
        x.undo();
        Due.is("redo()", x.redo(), true);
        Due.lawIs("redo()", x, 0, "0:1/2 1:1/2");
        Due.is("count(2)", x.count(2), 1);
        Due.is("count(3)", x.count(3), 0);
    }

    private static void redoOfNothing() {
        Document.says(14, "false, if there is nothing to be done again.");
        ChanceBench x = new ChanceBench();
        Due.is("redo() of a new one", x.redo(), false);
        Due.is("count(2)", x.count(2), 0);
        x.wheel(0, 2, 0);
        Due.is("redo() of what was not undone", x.redo(), false);
        Due.is("count(2)", x.count(2), 1);
        x.undo();
        x.redo();
        Due.is("redo() of none left", x.redo(), false);
        Due.is("count(2)", x.count(2), 1);
        Due.lawIs("the law", x, 0, "0:1/2 1:1/2");
        Twins.isFalse("redo() of none left, and all undone again", y -> {
            y.redo();
            y.redo();
            boolean more = y.redo();
            y.undo();
            y.undo();
            return more;
        });
    }
}
