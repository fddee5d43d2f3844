/** The edges of ways, waits, rings, sets that stand still, states, mends and shares: parts 2, 3, 4, 6. */
public final class EdgeWaysTest {
    private static final int UNKNOWN = -1, OUTSIDE = -2, STATE = -3, NONE = -9;
    private static final long LOST = Long.MIN_VALUE;
    private static final int SHORT = 0, FIRST = 1, ANY = 2;

    /** A closed way over ten lanes: each leads to where the next one begins, the last to the first. */
    private static final String ROUND = "n6;0>1;1>2;2>3;3>4;4>5;5>0;0>2;2>4;4>1;1>0";
    private static final String RING = "n3;0>1;1>2;2>0";
    private static final String LINE = "n3;0>1;1>0;1>2;2>1";
    private static final String LONG_LINE = "n4;0>1;1>0;1>2;2>1;2>3;3>2";

    private static final Due DUE = new Due("EdgeWaysTest");

    public static void main(String[] args) {
        noneAtItsNode(); ruleAtFirst(); shortOnly(); firstOnly(); anyThatComes(); barredTurns(); setsOutBarsNone(); lastBits();
        comesWhatever(); comesBySome(); comesByNone(); nodeTwiceIsFine(); pointTwiceIsNot(); onlyWhatItMayComeTo();
        carriesWhatSetsOut(); carriesLastNode(); waitsForNothing(); waitsByWhatItCarries();
        noRing(); ringOfTwo(); ringOfTen(); shortestAheadOfFirst(); firstAsARow(); ringKs();
        ranks(); rankOfNine(); rankBesideRing();
        stillNone(); stillNothingToTake(); stillAll(); stillLeast(); stillLeastNumber(); stillSomeNode();
        statesAtMostFourNodes(); statesAtMostSixLanes(); statesOneCell(); statesEmptyOne(); deadByNothing(); deadNotAtItsNode();
        deadSetOfSome(); deadNone(); deadSteps(); statesKeptAnew();
        mendNone(); mendOne(); mendTwo(); mendNotWithTwo(); mendFirstRow(); mendBehindTheFirstTurn(); mendManyTurns(); mendNeedsComing(); mendBarsNothing();
        bearsSo(); bearsWhole(); bearsLeastTerms(); bearsNothing(); bearsGreat(); busiestLeast(); busiestSo();
        stillLeastOfLaneZero(); ringThatBranches(); statesFromLaneToLane(); statesAllForTheLastNode(); comesInANewNet(); busiestByUnlikeShares();
        newNetAsOfANewObject(); newRuleAsOfANewObject(); otherTurnsAsOfANewObject();
        DUE.end();
    }

    private static void is(String sentence, long got, long want) { DUE.is(sentence, got, want); }

    private static LaneWaits of(String text, int rule) {
        LaneWaits x = Due.of(text);
        x.rule(rule);
        return x;
    }

    /** Bars each turn of ROUND but those from a lane to the next one. */
    private static LaneWaits round() {
        LaneWaits x = of(ROUND, ANY);
        for (int c = 0; c < 10; c++) {
            for (int d = 0; d < 10; d++) if (d != (c + 1) % 10) x.bar(c, d, 1);
        }
        return x;
    }

    // ---- 2 rules, turns

    private static void noneAtItsNode() {
        for (int rule = 0; rule <= 2; rule++) {
            LaneWaits x = of(LONG_LINE, rule);
            for (int v = 0; v < 4; v++) is("2 it is not at y: sets out", x.out(v, v), 0);
            for (int c = 0; c < 6; c++) is("2 it is not at y: in a LANE", x.may(c, x.ofLane(c, 1)), 0);
        }
    }

    private static void ruleAtFirst() {
        LaneWaits x = new LaneWaits();
        is("2 the RULE is 0 at first", x.rule(0), 0);
        for (int v = -1; v <= 3; v++) is("5 v of 0 .. 2: " + v, x.rule(v), v < 0 || v > 2 ? OUTSIDE : Math.max(0, v - 1));
        is("5 the last that was taken", x.rule(0), 2);
    }

    private static void shortOnly() {
        // From 0 to 3: by lane 0 in two, by lane 2 in three.
        LaneWaits x = Due.of("n4;0>1;1>3;0>2;2>1");
        is("2 SHORT: one less", x.out(0, 3), 1);
        is("2 SHORT: none leads there", x.out(3, 0), 0);
        LaneWaits y = Due.of("n2;0>1;0>1;0>1;0>1;0>1;0>1;0>1;0>1;0>1;0>1");
        is("2 SHORT: all ten beside each other", y.out(0, 1), 1023);
        is("2 SHORT: none back", y.out(1, 0), 0);
    }

    private static void firstOnly() {
        LaneWaits y = of("n2;0>1;0>1;0>1;0>1;0>1;0>1;0>1;0>1;0>1;0>1", FIRST);
        is("2 FIRST: the least number", y.out(0, 1), 1);
        // From 0 to 3: by lane 0 in three, by lane 1 in two.
        LaneWaits x = of("n4;0>2;0>1;1>3;2>1", FIRST);
        is("2 FIRST: of those that are short", x.out(0, 3), 2);
    }

    private static void anyThatComes() {
        // Node 3 is a dead end, node 2 comes back.
        LaneWaits x = of("n4;0>1;0>2;0>3;2>0", ANY);
        is("2 ANY: y can be come to from there", x.out(0, 1), 1 + 2);
        is("2 ANY: to the dead end itself", x.out(0, 3), 2 + 4);
        is("2 ANY: none", x.out(1, 0), 0);
        is("2 ANY: back by where it came from", x.may(3, 1), 1 + 2);
    }

    private static void barredTurns() {
        LaneWaits x = of("n3;0>1;1>2;1>2;1>2", FIRST);
        is("2 FIRST, none BARRED", x.may(0, 2), 2);
        x.bar(0, 1, 1);
        is("2 FIRST: the least of those that are not", x.may(0, 2), 4);
        x.bar(0, 2, 1);
        is("2 FIRST: the last that is not", x.may(0, 2), 8);
        x.bar(0, 3, 1);
        is("2 all are BARRED", x.may(0, 2), 0);
        is("33 three BARRED", x.many(4), 3);
        for (int rule : new int[] {SHORT, ANY}) {
            x.rule(rule);
            is("2 all are BARRED by each RULE", x.may(0, 2), 0);
            is("6 it was", x.bar(0, 3, 0), 1);
            is("2 one is not", x.may(0, 2), 8);
            is("6 it was not", x.bar(0, 3, 1), 0);
        }
        // A barred turn that is short does not make a longer way short.
        LaneWaits y = Due.of("n4;0>1;1>3;1>2;2>3");
        y.bar(0, 1, 1);
        is("2 SHORT is by FAR, not by TURNS", y.may(0, 3), 0);
    }

    private static void setsOutBarsNone() {
        LaneWaits x = Due.of(RING);
        for (int c = 0; c < 3; c++) x.bar(c, (c + 1) % 3, 1);
        for (int v = 0; v < 3; v++) is("2 it SETS OUT by no TURN", x.out(v, (v + 2) % 3), 1 << v);
    }

    private static void lastBits() {
        LaneWaits x = round();
        is("sets: the last LANE that it may take", x.may(8, 5), 1 << 9);
        is("sets: sets out into it", x.out(1, 5), 1 << 1 | 1 << 9);
        is("sets: waits for it", x.waits(8), 1 << 9);
    }

    private static void comesWhatever() {
        LaneWaits x = Due.of(LONG_LINE);
        for (int a = 0; a < 4; a++) {
            for (int b = 0; b < 4; b++) is("9 COMES by SHORT: " + a + ", " + b, x.comes(a, b), a == b ? OUTSIDE : 2);
        }
        is("9 one LANE", Due.of("n2;0>1").comes(0, 1), 2);
    }

    private static void comesBySome() {
        LaneWaits x = Due.of("n4;0>1;0>2;1>3;2>3");
        is("9 both ways end there", x.comes(0, 3), 2);
        x.bar(1, 3, 1);
        is("9 1: one way ends elsewhere", x.comes(0, 3), 1);
        x.bar(0, 2, 1);
        is("9 0: both do", x.comes(0, 3), 0);
        x.rule(FIRST);
        x.bar(0, 2, 0);
        is("9 2: the bad way is not taken", x.comes(0, 3), 2);
    }

    private static void comesByNone() {
        is("9 0: nothing leads there", Due.of("n3;0>1").comes(0, 2), 0);
        is("9 0: nothing leads away", Due.of("n3;0>1").comes(2, 0), 0);
        is("9 0: just the other way", Due.of("n2;0>1").comes(1, 0), 0);
    }

    private static LaneWaits there() {
        LaneWaits x = of("n4;0>1;1>2;2>1;1>3", ANY);
        x.bar(0, 3, 1);
        return x;
    }

    private static void nodeTwiceIsFine() {
        LaneWaits x = there();
        x.bar(2, 1, 1);
        // By lanes 0, 1, 2, 3: twice at node 1, but in other LANES.
        is("2 a NODE twice is no POINT twice", x.comes(0, 3), 2);
        is("2 it is carried", x.carries(2) >> 3 & 1, 1);
    }

    private static void pointTwiceIsNot() {
        LaneWaits x = there();
        is("2 it may come to lane 1 twice", x.comes(0, 3), 1);
        x.bar(2, 3, 1);
        is("2 it goes round for ever", x.comes(0, 3), 0);
    }

    private static void onlyWhatItMayComeTo() {
        LaneWaits x = there();
        x.bar(2, 1, 1);
        x.bar(1, 2, 1);
        is("2 from 0 it is stuck", x.comes(0, 3), 0);
        is("2 from 2 it does not come to lane 1", x.comes(2, 3), 2);
        is("2 from 1 by some ways", x.comes(1, 3), 1);
    }

    // ---- 3 waits

    private static void carriesWhatSetsOut() {
        LaneWaits x = of("n3;0>1;0>1;1>2", FIRST);
        is("10 CARRIES: the first", x.carries(0), 2 + 4);
        is("10 CARRIES: nothing", x.carries(1), 0);
        is("10 CARRIES: just what it leads to", x.carries(2), 4);
        is("11 nothing carried, nothing waited for", x.waits(1), 0);
        is("7 though one there MAY take it", x.may(1, 2), 4);
    }

    private static void carriesLastNode() {
        LaneWaits x = round();
        is("sets: NODES up to the last", x.carries(0), 2 + 4 + 8 + 16 + 32);
        is("sets: not from where it leads", x.carries(5), 1 + 2 + 4 + 8 + 16);
    }

    private static void waitsForNothing() {
        is("11 it just CARRIES where it leads", Due.of("n2;0>1;1>0").waits(0), 0);
        LaneWaits x = Due.of(RING);
        x.bar(0, 1, 1);
        is("11 what is BARRED is not waited for", x.waits(0), 0);
        is("10 it is carried all the same", x.carries(0), 2 + 4);
    }

    private static void waitsByWhatItCarries() {
        LaneWaits x = Due.of(LINE);
        is("7 one for 1 in lane 1 MAY turn back", x.may(1, 1), 1);
        is("11 but none is carried", x.waits(1), 0);
    }

    private static void noRing() {
        LaneWaits x = Due.of("n2;0>1;1>0");
        is("12 0: there is none", x.ring(-1), 0);
        for (int k = 0; k <= 9; k++) is("12 NONE", x.ring(k), NONE);
        LaneWaits y = Due.of(RING);
        for (int c = 0; c < 3; c++) {
            is("12 a ring", y.ring(-1), 3);
            y.bar(c, (c + 1) % 3, 1);
            is("12 one of them does not wait", y.ring(-1), 0);
            y.bar(c, (c + 1) % 3, 0);
        }
    }

    private static void ringOfTwo() {
        LaneWaits x = of(LINE, ANY);
        is("12 two", x.ring(-1), 2);
        is("12 two: first", x.ring(0), 0);
        is("12 two: last", x.ring(1), 1);
        is("12 two: NONE", x.ring(2), NONE);
    }

    private static void ringOfTen() {
        LaneWaits x = round();
        is("12 how many LANES: ten", x.ring(-1), 10);
        for (int k = 0; k <= 9; k++) is("12 the k-th one of ten", x.ring(k), k);
        is("12 k is not -1 .. 9", x.ring(10), UNKNOWN);
        is("14 all stand still", x.still(0), 1023);
        is("14 none of them without the others", x.still(1), 1023);
    }

    private static void shortestAheadOfFirst() {
        LaneWaits x = Due.of("n6;0>1;1>2;2>0;3>4;4>3;4>5;5>4");
        is("3 three by SHORT", x.ring(-1), 3);
        x.rule(ANY);
        is("3 the shortest, though it is not the first", x.ring(-1), 2);
        is("3 it begins with 3", x.ring(0), 3);
        is("3 and has 4", x.ring(1), 4);
    }

    private static void firstAsARow() {
        LaneWaits x = Due.of("n6;0>1;1>2;3>4;4>5;5>3;2>0");
        int[] row = {0, 1, 5};
        for (int k = 0; k < 3; k++) is("3 of several the first as a row", x.ring(k), row[k]);
        x.bar(5, 0, 1);
        for (int k = 0; k < 3; k++) is("3 then the other", x.ring(k), 2 + k);
        // Two beside each other: the row with the lesser second one, then the lesser third one.
        LaneWaits y = Due.of("n3;0>1;2>0;1>2;2>0;1>2");
        int[] least = {0, 2, 1};
        for (int k = 0; k < 3; k++) is("3 the first as a row, not as a set", y.ring(k), least[k]);
        y.bar(2, 1, 1);
        int[] third = {0, 2, 3};
        for (int k = 0; k < 3; k++) is("3 by its second one ahead of its third", y.ring(k), third[k]);
    }

    private static void ringKs() {
        LaneWaits x = Due.of(RING);
        for (int k = -2; k <= 10; k++) {
            int want = k == -2 || k == 10 ? UNKNOWN : k == -1 ? 3 : k < 3 ? k : NONE;
            is("12 k " + k, x.ring(k), want);
        }
    }

    private static void ranks() {
        LaneWaits x = Due.of("n2;0>1;1>0");
        is("13 0: none", x.rank(0), 0);
        is("13 0: none, the last LANE", x.rank(1), 0);
        is("13 behind the last LANE", x.rank(2), UNKNOWN);
        // Lane 0 waits for lanes 1 and 3, lane 1 for 2: at the most two.
        LaneWaits y = Due.of("n5;0>1;1>2;2>3;1>4");
        is("13 at the most", y.rank(0), 2);
        is("13 then", y.rank(1), 1);
        is("13 none", y.rank(3), 0);
    }

    private static void rankOfNine() {
        LaneWaits x = round();
        is("13 STATE: a RING", x.rank(0), STATE);
        x.bar(9, 0, 1);
        for (int c = 0; c < 10; c++) is("13 one behind another, nine at the most", x.rank(c), 9 - c);
    }

    private static void rankBesideRing() {
        LaneWaits x = Due.of("n6;0>1;1>2;2>0;3>4;4>5");
        is("13 STATE, of a LANE that is not of it", x.rank(4), STATE);
        x.bar(0, 1, 1);
        is("13 no RING", x.rank(3), 1);
        is("13 two of the broken one", x.rank(1), 2);
    }

    private static void stillNone() {
        for (int what = 0; what <= 1; what++) {
            is("14 0: there is none", Due.of("n2;0>1").still(what), 0);
            is("14 0: there is none of LONG_LINE", Due.of(LONG_LINE).still(what), 0);
        }
    }

    private static void stillNothingToTake() {
        LaneWaits x = Due.of("n3;0>1;1>2");
        x.bar(0, 1, 1);
        is("3 nothing, too", x.still(0), 1);
        is("3 nothing, too: the least", x.still(1), 1);
        // One in lane 0 for 1 is at its node: only by what it carries beyond does it stand.
        LaneWaits y = Due.of("n2;0>1;1>0");
        y.bar(0, 1, 1);
        is("3 not one that is at its NODE", y.still(0), 0);
    }

    private static void stillAll() {
        LaneWaits x = round();
        x.bar(9, 0, 1);
        is("14 all ten", x.still(0), 1023);
        is("14 the last alone", x.still(1), 512);
    }

    private static void stillLeast() {
        LaneWaits x = Due.of("n4;0>1;1>3;2>0;3>0");
        is("14 all", x.still(0), 15);
        is("14 the fewest", x.still(1), 11);
        x.bar(2, 0, 1);
        is("14 one is fewer", x.still(1), 4);
    }

    private static void stillLeastNumber() {
        LaneWaits x = Due.of("n6;0>1;1>2;3>4;4>5;5>3;2>0");
        is("14 both rings", x.still(0), 63);
        is("14 of several the least as a number", x.still(1), 4 + 8 + 16);
        x.bar(4, 2, 1);
        x.bar(5, 0, 1);
        is("14 of two single ones the least", x.still(1), 16);
    }

    private static void stillSomeNode() {
        // One in lane 0 for 3 goes on by lane 2; one for 4 just by lane 1, that is stuck for 4.
        LaneWaits x = Due.of("n5;0>1;1>2;1>3;2>4");
        x.bar(1, 3, 1);
        is("3 some y, not each", x.still(0), 3);
        is("3 the stuck one", x.still(1), 2);
    }

    // ---- 4 states

    private static void statesAtMostFourNodes() {
        for (int n = 2; n <= 6; n++) {
            LaneWaits x = Due.of("n" + n + ";0>1");
            is("4 at most 4 NODES: " + n, x.states(0), n <= 4 ? 2 : STATE);
            is("4 DEAD: " + n, x.states(1), n <= 4 ? 0 : STATE);
            is("4 STEPS: " + n, x.states(2), n <= 4 ? NONE : STATE);
        }
    }

    private static void statesAtMostSixLanes() {
        for (int lanes = 1; lanes <= 10; lanes++) {
            is("4 at most 6 LANES: " + lanes, Due.of("n2" + ";0>1".repeat(lanes)).states(0), lanes <= 6 ? 1 << lanes : STATE);
        }
        is("4 four and six", of("n4;0>1;1>2;2>3;3>0;0>2;1>3", ANY).states(0), 4096);
        is("4 five and six", of("n5;0>1;1>2;2>3;3>4;4>0;0>2", ANY).states(0), STATE);
        is("4 four and seven", of("n4;0>1;1>2;2>3;3>0;0>2;1>3;2>0", ANY).states(0), STATE);
    }

    private static void statesOneCell() {
        for (int c = 0; c < 6; c++) {
            for (int cells = 1; cells <= 2; cells++) {
                StringBuilder text = new StringBuilder("n2");
                for (int d = 0; d < 6; d++) text.append(d == c ? ";0>1*" + cells : ";0>1");
                is("4 all of one CELL: " + text, Due.of(text.toString()).states(0), cells == 1 ? 64 : STATE);
            }
        }
    }

    private static void statesEmptyOne() {
        is("4 the empty one and another", Due.of("n2;0>1").states(0), 2);
        // Nothing may set out for node 2, nor come into the second lane.
        LaneWaits x = of("n3;0>1;0>1", FIRST);
        is("4 just those that come", x.states(0), 2);
    }

    private static void deadByNothing() {
        LaneWaits x = Due.of("n3;0>1;1>2");
        is("4 none is DEAD", x.states(1), 0);
        x.bar(0, 1, 1);
        // One for 2 in lane 0, lane 1 with one for 2 or with none.
        is("4 MAY take nothing", x.states(1), 2);
        is("4 by one STEP", x.states(2), 1);
    }

    private static void deadNotAtItsNode() {
        LaneWaits x = Due.of(RING);
        is("4 of 27", x.states(0), 27);
        is("4 just the one of which none is at its NODE", x.states(1), 1);
        is("4 three STEPS", x.states(2), 3);
    }

    private static void deadSetOfSome() {
        // The ring 0, 1, 2 is stuck, whatever lane 3 has: none, or one for 0, 1 or 2.
        LaneWaits x = Due.of("n4;0>1;1>2;2>0;3>0");
        is("4 a set of some LOADS", x.states(1), 4);
        is("4 STEPS", x.states(2), 3);
        is("4 all that come", x.states(0), 27 * 4);
    }

    private static void deadNone() {
        LaneWaits x = Due.of(LONG_LINE);
        is("15 no DEAD one", x.states(1), 0);
        is("15 NONE: none comes", x.states(2), NONE);
    }

    private static void deadSteps() {
        LaneWaits x = of(LONG_LINE, ANY);
        // Each that goes to and fro needs all: one in each of the six lanes.
        is("15 six STEPS", x.states(2), 6);
        is("15 they come", x.states(1) > 0 ? 1 : 0, 1);
    }

    private static void statesKeptAnew() {
        LaneWaits x = Due.of(RING);
        x.states(0);
        Due.take(x, "n2;0>1");
        is("15 of the new NET", x.states(0), 2);
        x.send(0, 0, 1);
        is("15 from the empty one, whatever there is", x.states(0), 2);
        Due.take(x, "n5;0>1");
        is("15 it is not as told", x.states(0), STATE);
    }

    // ---- 6 mends, bears

    private static void mendNone() {
        LaneWaits x = Due.of(LINE);
        is("20 no TURNS", x.mend(-1), 0);
        is("20 no first", x.mend(0), NONE);
        is("20 no second", x.mend(1), NONE);
    }

    private static void mendOne() {
        LaneWaits x = of("n3;1>2;1>2;0>1;0>1;2>0", FIRST);
        is("20 one TURN", x.mend(-1), 1);
        // Barred 2 to 0 would do, and so would 4 to 2.
        is("20 of several the first", x.mend(0), 20);
        is("20 no second", x.mend(1), NONE);
        x.bar(2, 0, 1);
        is("20 then none", x.mend(-1), 0);
        x.bar(2, 0, 0);
        x.bar(4, 2, 1);
        is("20 the other would do, too", x.mend(-1), 0);
    }

    private static void mendTwo() {
        LaneWaits x = of("n5;1>2;2>3;0>1;3>4;0>1;1>4;4>0;2>3;4>0", FIRST);
        is("20 two TURNS", x.mend(-1), 2);
        is("20 the first of them", x.mend(0), 1);
        is("20 the second of them", x.mend(1), 56);
        x.bar(0, 1, 1);
        is("20 one is left", x.mend(-1), 1);
        is("20 which", x.mend(0), 56);
        x.bar(5, 6, 1);
        is("20 none is left", x.mend(-1), 0);
        x.bar(5, 6, 0);
        x.bar(6, 2, 1);
        is("20 0 to 1 and 6 to 2 would do, too", x.mend(-1), 0);
    }

    private static void mendNotWithTwo() {
        LaneWaits x = of("n5;3>1;0>3;0>3;1>2;4>0;0>1;2>3;3>4;1>2", FIRST);
        int[][] three = {{0, 3}, {4, 1}, {5, 3}};
        for (int k = -1; k <= 1; k++) is("20 NONE: not with two", x.mend(k), NONE);
        for (int[] t : three) is("11 each is waited for", x.waits(t[0]) >> t[1] & 1, 1);
        for (int[] t : three) x.bar(t[0], t[1], 1);
        is("20 three would do", x.mend(-1), 0);
        for (int k = 0; k < 3; k++) {
            x.bar(three[k][0], three[k][1], 0);
            is("20 two of them are not enough", x.mend(-1), 1);
            x.bar(three[k][0], three[k][1], 1);
        }
    }

    private static void mendBehindTheFirstTurn() {
        LaneWaits x = of("n5;4>3;3>0;0>4;2>3;1>2;0>4;2>3;3>1", FIRST);
        is("11 the first TURN that is waited for", x.waits(0) & 2, 2);
        is("6 two, but not with that one", x.mend(-1), 2);
        is("6 the first of them", x.mend(0), 12);
        is("6 the second of them", x.mend(1), 43);
        x.bar(1, 2, 1);
        x.bar(4, 3, 1);
        is("6 with them BARRED all is well", x.mend(-1), 0);
    }

    private static void mendManyTurns() {
        LaneWaits x = Due.of("n3;0>1;0>1;0>1;1>2;1>2;1>2;2>0;2>0;2>0;2>0");
        int turns = 0;
        for (int c = 0; c < 10; c++) turns += Integer.bitCount(x.waits(c));
        is("6 three times three, three times four, four times three", turns, 33);
        is("6 NONE of so many", x.mend(-1), NONE);
    }

    private static void mendFirstRow() {
        LaneWaits x = of("n5;4>0;1>3;2>3;4>2;0>1;3>4;2>3;3>4;0>1", FIRST);
        // 0 to 4 with 2 to 5, or with 3 to 2.
        is("6 the first as a row", x.mend(0), 4);
        is("6 then by its second", x.mend(1), 25);
    }

    private static void mendNeedsComing() {
        LaneWaits x = Due.of("n3;0>1;1>2");
        is("6 no RING", x.ring(-1), 0);
        is("6 but it does not COME", x.mend(-1), NONE);
        LaneWaits y = Due.of(RING);
        is("6 it COMES, but there is a RING", y.mend(-1), NONE);
    }

    private static void mendBarsNothing() {
        LaneWaits x = of("n3;1>2;1>2;0>1;0>1;2>0", FIRST);
        x.mend(-1);
        is("6 it is told, not BARRED", x.many(4), 0);
        is("6 the RING stays", x.ring(-1), 3);
        is("6 the TURN is open", x.bar(2, 0, 1), 0);
    }

    private static void bearsSo() {
        LaneWaits x = Due.of("n3;0>1;1>2;2>0;0>2");
        is("21 it COMES so", x.bears(0, 1), 1);
        x.bar(2, 0, 1);
        // From 2 to 1 it is stuck in lane 2.
        is("21 LOST: of one x, y it does not", x.bears(0, 1), LOST);
        is("22 STATE: as bears()", x.busiest(), STATE);
        x.bar(2, 0, 0);
        is("21 again", x.bears(0, 1), 1);
        is("21 no way at all", Due.of("n3;0>1;1>0").bears(0, 0), LOST);
        is("21 by some ways", of(LINE, ANY).bears(0, 0), LOST);
    }

    private static void bearsWhole() {
        LaneWaits x = Due.of("n6;0>1;1>2;2>3;3>4;4>5;5>0");
        for (int c = 0; c < 6; c++) {
            is("21 1 and 2 .. and 5", x.bears(c, 0), 15);
            is("21 a whole number", x.bears(c, 1), 1);
        }
    }

    private static void bearsLeastTerms() {
        LaneWaits x = Due.of("n3;0>1;0>1;1>2;2>0");
        // From 0 to 1, from 0 to 2, from 2 to 1: three halves.
        is("shares: upper", x.bears(0, 0), 3);
        is("shares: lower", x.bears(0, 1), 2);
        LaneWaits y = Due.of("n3;0>1;0>1;1>2;2>0;0>2");
        // From 0 to 1, from 2 to 1: two halves.
        is("shares: in least terms, upper", y.bears(0, 0), 1);
        is("shares: in least terms, lower", y.bears(0, 1), 1);
        LaneWaits z = Due.of("n2" + ";0>1".repeat(9) + ";1>0");
        is("shares: a ninth, upper", z.bears(8, 0), 1);
        is("shares: a ninth", z.bears(8, 1), 9);
        is("shares: the whole", z.bears(9, 0), 1);
    }

    private static void bearsNothing() {
        LaneWaits x = of("n2;0>1;0>1;1>0", FIRST);
        is("shares: nothing is 0", x.bears(1, 0), 0);
        is("shares: of 1, above 0", x.bears(1, 1), 1);
    }

    private static void bearsGreat() {
        LaneWaits x = Due.of("n4;0>1;0>1;0>1;1>2;1>2;2>3;3>0");
        // Lanes 0, 1, 2. For 1: from 0, 2, 3; for 2: from 0, 3; for 3: from 0: six, in thirds.
        is("21 thirds", x.bears(2, 0), 2);
        is("21 thirds make a whole number", x.bears(2, 1), 1);
        // Lanes 3, 4. For 0: from 1; for 2: from 0, 1, 3; for 3: from 0, 1: six, in halves.
        is("21 halves", x.bears(3, 0), 3);
        is("21 halves make a whole number", x.bears(3, 1), 1);
        is("22 the busiest, with six, as the last one", x.busiest(), 5);
    }

    private static void busiestLeast() {
        is("22 of several the least number", Due.of("n6;0>1;1>2;2>3;3>4;4>5;5>0").busiest(), 0);
        is("22 the last one", Due.of("n2" + ";0>1".repeat(9) + ";1>0").busiest(), 9);
        is("22 halves and thirds", Due.of("n2;0>1;0>1;0>1;1>0;1>0").busiest(), 3);
    }

    private static void busiestSo() {
        is("22 STATE, not so", Due.of("n2;0>1").busiest(), STATE);
        is("22 STATE, by some ways", of(LINE, ANY).busiest(), STATE);
        LaneWaits x = Due.of(LINE);
        is("22 so", x.busiest(), 0);
        x.bar(0, 2, 1);
        is("22 no more", x.busiest(), STATE);
    }

    private static void stillLeastOfLaneZero() {
        LaneWaits x = Due.of(RING);
        x.bar(0, 1, 1);
        is("14 all: the ring that waits for the stuck one", x.still(0), 7);
        is("14 the least as a number of all there are", x.still(1), 1);
    }

    private static void ringThatBranches() {
        LaneWaits x = Due.of("n4;2>3;1>2;3>0;0>1;3>0");
        int[] row = {0, 2, 3, 1};
        is("12 a ring of four", x.ring(-1), 4);
        for (int k = 0; k < 4; k++) is("12 its " + k, x.ring(k), row[k]);
        is("12 NONE behind the last", x.ring(4), NONE);
        LaneWaits y = Due.of("n5;0>1;1>2;2>3;3>0;3>4;4>0");
        is("12 the short one of two that share lanes", y.ring(-1), 4);
        for (int k = 0; k < 4; k++) is("12 shared: " + k, y.ring(k), k);
        y.bar(2, 3, 1);
        is("12 the long one, where the short one is BARRED", y.ring(-1), 0);
        y.rule(ANY);
        int[] around = {0, 1, 2, 4, 5};
        is("12 by ANY there is a way round", y.ring(-1), 5);
        for (int k = 0; k < 5; k++) is("12 around: " + k, y.ring(k), around[k]);
        // From lane 3 there is a way to lane 0 at once, and one by lanes 4 and 5.
        LaneWaits z = of("n5;0>1;1>2;2>3;3>0;0>4;4>0", ANY);
        is("12 to and fro", z.ring(-1), 2);
        z.bar(5, 4, 1);
        is("12 with a way about beside it", z.ring(-1), 4);
        for (int k = 0; k < 4; k++) is("12 beside a way about: " + k, z.ring(k), k);
    }

    private static void statesAllForTheLastNode() {
        LaneWaits x = Due.of("n4;0>3;1>3;2>3;0>3;1>3;2>3");
        is("4 in each of six LANES one for the last of four NODES, or none", x.states(0), 64);
        is("4 none is DEAD, each is at its NODE", x.states(1), 0);
    }

    private static void comesInANewNet() {
        LaneWaits x = Due.of("n3;0>2;1>2");
        is("9 lane 0 leads there", x.comes(0, 2), 2);
        Due.take(x, "n3;0>1;1>2");
        x.bar(0, 1, 1);
        is("9 in the new NET it does not", x.comes(0, 2), 0);
    }

    private static void statesFromLaneToLane() {
        LaneWaits x = of("n3;0>1;1>0;1>0;2>1", FIRST);
        is("4 none goes into the third lane", x.states(0), 12);
        x.bar(3, 1, 1);
        is("4 one goes on into it from LANE to LANE", x.states(0), 24);
        LaneWaits y = of("n3;1>0;2>1;0>1;1>0", FIRST);
        y.bar(1, 0, 1);
        is("4 into the last lane", y.states(0), 24);
        LaneWaits z = of("n4;3>0;0>1;0>1;1>2", FIRST);
        z.bar(2, 3, 1);
        z.bar(0, 1, 1);
        is("4 STEPS: it sets out, then it goes on", z.states(2), 2);
    }

    private static void busiestByUnlikeShares() {
        is("22 lane 1 of two", Due.of("n3;0>1;1>0;1>2;2>1").busiest(), 0);
        is("22 lane 1 bears the most", Due.of("n4;2>0;0>1;1>2;1>3;3>0").busiest(), 1);
        // One half, three halves (twice), two thirds, one.
        LaneWaits x = Due.of("n3;2>1;1>2;2>1;0>1;0>1;2>0;2>0;0>1;1>2");
        is("22 one half: upper", x.bears(0, 0), 1);
        is("22 one half: lower", x.bears(0, 1), 2);
        is("22 three halves: upper", x.bears(1, 0), 3);
        is("22 three halves: lower", x.bears(1, 1), 2);
        is("22 two thirds: upper", x.bears(3, 0), 2);
        is("22 two thirds: lower", x.bears(3, 1), 3);
        is("22 of shares with the same lower number the greater one", x.busiest(), 1);
    }

    /** Nets that have more and fewer nodes, lanes, ways, so that nothing of one fits another. */
    private static final String[] NETS = {
        ROUND, "n2;0>1", LONG_LINE, "n3;0>1;0>1;0>1;1>2;2>0", RING, "n4;0>1;1>2;2>3;3>0;0>2;1>3",
        "n3;1>2;1>2;0>1;0>1;2>0", "n4;0>2;0>1;1>3;2>1", LINE, "n4;3>0;0>1;0>1;1>2",
    };

    private static void newNetAsOfANewObject() {
        for (int rule = 0; rule <= 2; rule++) {
            for (String before : NETS) {
                for (String text : NETS) {
                    LaneWaits x = of(before, rule);
                    workAll(x);
                    x.bar(0, firstTurn(x, 0), 1);
                    Due.take(x, text);
                    alike("1 a TEXT that is taken makes all anew: " + before + " then " + text, x, of(text, rule));
                }
            }
        }
    }

    private static void newRuleAsOfANewObject() {
        for (String text : NETS) {
            for (int rule = 0; rule <= 2; rule++) {
                for (int then = 0; then <= 2; then++) {
                    LaneWaits x = of(text, rule);
                    workAll(x);
                    x.rule(then);
                    alike("5 RULE " + rule + " becomes " + then + ": " + text, x, of(text, then));
                }
            }
        }
    }

    private static void otherTurnsAsOfANewObject() {
        for (String text : NETS) {
            for (int rule = 0; rule <= 2; rule++) {
                int lanes = of(text, rule).many(1);
                for (int c = 0; c < lanes; c++) turnAsOfANewObject(text, rule, c);
            }
        }
    }

    private static void turnAsOfANewObject(String text, int rule, int c) {
        LaneWaits x = of(text, rule);
        int d = firstTurn(x, c);
        if (d == NONE) return;
        workAll(x);
        LaneWaits barred = of(text, rule);
        is("6 it was not", x.bar(c, d, 1), 0);
        barred.bar(c, d, 1);
        alike("6 the TURN becomes BARRED: " + text + " " + c + ", " + d, x, barred);
        LaneWaits y = of(text, rule);
        y.bar(c, d, 1);
        workAll(y);
        is("6 it was", y.bar(c, d, 0), 1);
        alike("6 the TURN becomes free: " + text + " " + c + ", " + d, y, of(text, rule));
    }

    /** Lets the object find all that it may keep. */
    private static void workAll(LaneWaits x) {
        x.comes(0, 1);
        x.carries(0);
        x.ring(-1);
        x.rank(0);
        x.still(0);
        x.states(0);
        x.mend(-1);
        x.busiest();
    }

    private static int firstTurn(LaneWaits x, int c) {
        for (int d = 0; d < x.many(1); d++) if (x.ofLane(d, 0) == x.ofLane(c, 1)) return d;
        return NONE;
    }

    private static void alike(String sentence, LaneWaits used, LaneWaits fresh) {
        long[] got = answers(used);
        long[] want = answers(fresh);
        for (int k = 0; k < got.length; k++) is(sentence + ": answer " + k, got[k], want[k]);
    }

    /** What changes nothing, of an object that was asked some hundred calls before at the most. */
    private static long[] answers(LaneWaits x) {
        long[] row = new long[300];
        int k = 0;
        for (int what = 0; what <= 5; what++) row[k++] = x.many(what);
        for (int what = 0; what <= 2; what++) row[k++] = x.states(what);
        for (int what = 0; what <= 1; what++) row[k++] = x.still(what);
        for (int turn = -1; turn <= 1; turn++) row[k++] = x.mend(turn);
        for (int at = -1; at <= 9; at++) row[k++] = x.ring(at);
        for (int a = 0; a < 6; a++) {
            for (int b = 0; b < 6; b++) {
                row[k++] = x.far(a, b);
                row[k++] = x.out(a, b);
                row[k++] = x.comes(a, b);
            }
        }
        for (int c = 0; c < 10; c++) {
            row[k++] = x.carries(c);
            row[k++] = x.waits(c);
            row[k++] = x.rank(c);
            row[k++] = x.bears(c, 0);
            row[k++] = x.bears(c, 1);
            for (int y = 0; y < 6; y++) row[k++] = x.may(c, y);
        }
        row[k++] = x.busiest();
        return row;
    }
}
