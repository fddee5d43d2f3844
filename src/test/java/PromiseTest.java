/** Each promise by itself, with answers worked out by hand from the document. */
public final class PromiseTest {
    private static final int UNKNOWN = -1, OUTSIDE = -2, STATE = -3, FULL = -4, NONE = -9;
    private static final int NULL = -11, CAST = -12, INDEX = -13, SIZE = -14;
    private static final int MIN = Integer.MIN_VALUE, MAX = Integer.MAX_VALUE;
    private static final long LOST = Long.MIN_VALUE;

    /** Lanes 0, 1, 2, each of which waits for the next one. */
    private static final String RING = "n3;0>1;1>2;2>0";
    /** From 0 to 3 by 1 (lanes 0, 2) or by 2 (lanes 1, 3), and back by lane 4. */
    private static final String DIAMOND = "n4;0>1;0>2;1>3;2>3;3>0";
    /** There and back: 0 and 2 lead up, 1 and 3 down. */
    private static final String LINE = "n3;0>1;1>0;1>2;2>1";
    /** Two lanes beside each other, then one on, and one back. */
    private static final String PAIR = "n3;0>1*2;0>1;1>2;2>0*2";

    private final Due due;

    private PromiseTest(Due due) { this.due = due; }

    public static void main(String[] args) {
        Due due = new Due("PromiseTest");
        PromiseTest t = new PromiseTest(due);
        t.p01(); t.p02Taken(); t.p02Faults(); t.p02Refused(); t.p02Anew(); t.p03(); t.p04(); t.p05(); t.p06();
        t.p07(); t.p08(); t.p09(); t.p10(); t.p11(); t.p12(); t.p13(); t.p14(); t.p15();
        t.p16(); t.p17(); t.p17Hasty(); t.p17Sealed(); t.p18(); t.p19(); t.p19Rooms(); t.p20(); t.p21(); t.p22();
        t.p23(); t.p24(); t.p25(); t.p26(); t.p27(); t.p28(); t.p29(); t.p30(); t.p31(); t.p32(); t.p33();
        due.end();
    }

    private void is(String call, long got, long want) { due.is(call, got, want); }

    private void p01() {
        LaneWaits x = new LaneWaits();
        for (int what = 0; what <= 5; what++) is("1 many", x.many(what), 0);
        is("1 rule", x.rule(0), 0);
        is("1 frozen", x.frozen(), 0);
        is("1 trace", x.trace(), 0);
        is("1 fault", x.fault(), 0);
        for (int k = 0; k < 4; k++) is("1 lose", x.lose(k), 0);
        is("1 far", x.far(0, 0), UNKNOWN);
        is("1 ofLane", x.ofLane(0, 0), UNKNOWN);
        is("1 ofLoad", x.ofLoad(0, 0), UNKNOWN);
        LaneWaits y = new LaneWaits();
        Due.take(x, RING);
        is("1 objects share nothing", y.many(0), 0);
        is("1 UNKNOWN", LaneWaits.UNKNOWN, -1);
        is("1 OUTSIDE", LaneWaits.OUTSIDE, -2);
        is("1 STATE", LaneWaits.STATE, -3);
        is("1 FULL", LaneWaits.FULL, -4);
        is("1 NONE", LaneWaits.NONE, -9);
        is("1 LOST", LaneWaits.LOST, Long.MIN_VALUE);
    }

    private void takes(String text, int want) {
        LaneWaits x = new LaneWaits();
        is("2 " + text, Due.take(x, text), want);
        is("2 fault of " + text, x.fault(), 0);
    }

    private void p02Taken() {
        takes("n2;0>1", 1);
        takes("n2;0>1*1;1>0*2", 2);
        takes("n2;0>1;0>1;0>1;0>1;0>1;0>1;0>1;0>1;0>1;0>1", 10);
        takes("n2;0>1;0>1;0>1;0>1;0>1;0>1;0>1;0>1;0>1;0>1*2", 10);
        takes("n6;5>0", 1);
        for (int sort = 0; sort <= 2; sort++) {
            LaneWaits x = new LaneWaits();
            x.sheet(3, sort, 10);
            String text = "n2;0>1";
            for (int k = 0; k < 6; k++) x.put(3, 2 + k, text.charAt(k));
            is("2 from 2 on", x.net(3, sort, 2, 6), 1);
            is("2 from 1 on", x.net(3, sort, 1, 6), -100);
            is("2 place from where the text begins", x.net(3, sort, 2, 8), -106);
            is("2 too short", x.net(3, sort, 2, 5), -105);
            is("2 nothing", x.net(3, sort, 0, 0), -100);
            is("2 nothing at the end", x.net(3, sort, 10, 0), -100);
        }
        LaneWaits x = new LaneWaits();
        x.sheet(0, 2, 6);
        String text = "n2;0>1";
        for (int k = 0; k < 6; k++) x.put(0, k, text.charAt(k));
        x.put(0, 3, '0' + 256);
        is("2 codes are not cut", x.net(0, 2, 0, 6), -103);
        x.put(0, 3, MIN);
        is("2 far below", x.net(0, 2, 0, 6), -103);
    }

    private void p02Faults() {
        takes("", -100);
        takes("m", -100);
        takes("n", -101);
        takes("n1", -101);
        takes("n7", -101);
        takes("n;", -101);
        takes("n2", -102);
        takes("n20", -102);
        takes("n2;", -103);
        takes("n2;2>0", -103);
        takes("n2;/>0", -103);
        takes("n2;;", -103);
        takes("n2;0", -104);
        takes("n2;0<1", -104);
        takes("n2;0>", -105);
        takes("n2;0>0", -105);
        takes("n2;0>2", -105);
        takes("n2;0>1n", -106);
        takes("n2;0>1*", -107);
        takes("n2;0>1*0", -107);
        takes("n2;0>1*3", -107);
        takes("n2;0>1*1*", -108);
        takes("n2;0>1*12", -108);
        takes("n2;0>1*1;", -109);
        takes("n2;0>1;1>1", -109);
        takes("n2;0>1;0>1;0>1;0>1;0>1;0>1;0>1;0>1;0>1;0>1;0>1", -142);
        takes("n2;0>1;0>1;0>1;0>1;0>1;0>1;0>1;0>1;0>1;0>1*2;", -144);
    }

    private void p02Refused() {
        LaneWaits x = Due.of(RING);
        x.sheet(1, 1, 5);
        int[][] calls = {
            {-1, 0, 0, 1, UNKNOWN, 0}, {4, 9, 0, 1, UNKNOWN, 0}, {MAX, 0, 0, 1, UNKNOWN, 0},
            {2, -1, 0, 1, OUTSIDE, 0}, {2, 3, 0, 1, OUTSIDE, 0},
            {1, 0, 0, -1, CAST, 2}, {1, 2, 0, 1, CAST, 2}, {2, 0, -1, -1, NULL, 1},
            {1, 1, 9, -1, SIZE, 4}, {1, 1, 0, MIN, SIZE, 4},
            {1, 1, -1, 0, INDEX, 3}, {1, 1, 6, 0, INDEX, 3}, {1, 1, 0, 6, INDEX, 3}, {1, 1, 5, 1, INDEX, 3},
            {1, 1, 3, MAX, INDEX, 3}, {1, 1, MAX, MAX, INDEX, 3}, {1, 1, MIN, 1, INDEX, 3},
            {1, 1, 0, 5, -100, 0},
        };
        for (int[] c : calls) {
            is("2 refused", x.net(c[0], c[1], c[2], c[3]), c[4]);
            is("2 fault", x.fault(), c[5]);
            is("2 stays", x.many(1), 3);
        }
    }

    private void p02Anew() {
        LaneWaits x = Due.of(RING);
        x.rule(2);
        x.bar(0, 1, 1);
        x.send(0, 0, 1);
        x.ticks(3);
        x.send(0, 0, 1);
        x.tell(0);
        is("2 a bad text", Due.take(x, "n2;0>"), -105);
        is("2 changes nothing", x.many(0) * 1000 + x.many(2) * 100 + x.many(3) * 10 + x.many(4), 3211);
        is("2 ticks stay", x.many(5), 3);
        is("2 a good one", Due.take(x, "n2;0>1"), 1);
        for (int what = 2; what <= 5; what++) is("2 makes anew", x.many(what), 0);
        is("2 the rule stays", x.rule(2), 2);
        is("2 trace stays", x.trace(), 1);
        is("2 no loads", x.ofLoad(0, 0), UNKNOWN);
        is("2 nothing in lanes", x.ofLane(0, 3), 0);
        is("2 numbers from 0 on", x.send(0, 0, 1), 0);
    }

    private void p03() {
        LaneWaits x = Due.of(PAIR);
        is("3 from", x.ofLane(3, 0), 2);
        is("3 to", x.ofLane(3, 1), 0);
        is("3 cells", x.ofLane(3, 2), 2);
        is("3 one cell", x.ofLane(1, 2), 1);
        is("3 empty", x.ofLane(0, 3), 0);
        is("3 none there", x.ofLane(0, 10), OUTSIDE);
        x.send(0, 0, 1);
        x.send(0, 0, 2);
        is("3 two", x.ofLane(0, 3), 2);
        is("3 first", x.ofLane(0, 10), 0);
        is("3 second", x.ofLane(0, 11), 1);
        is("3 third", x.ofLane(0, 12), OUTSIDE);
        x.ticks(1);
        is("3 first left", x.ofLane(0, 10), 1);
        is("3 one there", x.ofLane(0, 11), OUTSIDE);
        for (int what : new int[] {-1, 4, 9, 13, MIN, MIN + 10, MAX}) is("3 what", x.ofLane(0, what), OUTSIDE);
        for (int c : new int[] {-1, 4, 10, MIN, MAX}) is("3 lane", x.ofLane(c, 99), UNKNOWN);
    }

    private void p04() {
        LaneWaits x = Due.of(DIAMOND);
        int[][] far = {{0, 1, 1, 2}, {2, 0, 3, 1}, {2, 3, 0, 1}, {1, 2, 2, 0}};
        for (int a = 0; a < 4; a++) for (int b = 0; b < 4; b++) is("4 far", x.far(a, b), far[a][b]);
        x.bar(0, 2, 1);
        x.rule(1);
        is("4 bars and rules do not count", x.far(0, 3), 2);
        LaneWaits y = Due.of("n3;0>1");
        is("4 none", y.far(1, 0), NONE);
        is("4 alone", y.far(2, 2), 0);
        is("4 none to it", y.far(0, 2), NONE);
        for (int v : new int[] {-1, 3, MIN, MAX}) {
            is("4 node", y.far(v, 0), UNKNOWN);
            is("4 node", y.far(0, v), UNKNOWN);
        }
    }

    private void p05() {
        LaneWaits x = Due.of(DIAMOND);
        is("5 at first", x.rule(1), 0);
        is("5 then", x.rule(2), 1);
        for (int v : new int[] {-1, 3, MIN, MAX}) is("5 v", x.rule(v), OUTSIDE);
        is("5 refused stays", x.rule(0), 2);
        is("5 short", x.out(0, 3), 3);
        x.rule(1);
        is("5 first", x.out(0, 3), 1);
    }

    private void p06() {
        LaneWaits x = Due.of(RING);
        is("6 bar", x.bar(0, 1, 1), 0);
        is("6 again", x.bar(0, 1, 1), 1);
        is("6 one", x.many(4), 1);
        is("6 may", x.may(0, 2), 0);
        is("6 out is no turn", x.out(1, 2), 2);
        is("6 open", x.bar(0, 1, 0), 1);
        is("6 open again", x.bar(0, 1, 0), 0);
        is("6 may again", x.may(0, 2), 2);
        is("6 lane c", x.bar(3, 0, 9), UNKNOWN);
        is("6 lane d", x.bar(0, -1, 9), UNKNOWN);
        is("6 v", x.bar(0, 2, 2), OUTSIDE);
        is("6 v below", x.bar(0, 1, -1), OUTSIDE);
        is("6 no turn", x.bar(0, 2, 1), STATE);
        is("6 itself", x.bar(0, 0, 0), STATE);
        is("6 none", x.many(4), 0);
    }

    private void p07() {
        LaneWaits x = Due.of(DIAMOND);
        is("7 short, two", x.may(4, 3), 3);
        is("7 at its node", x.may(4, 0), 0);
        is("7 one", x.may(4, 2), 2);
        x.rule(1);
        is("7 first", x.may(4, 3), 1);
        x.bar(4, 0, 1);
        is("7 first of those that are not barred", x.may(4, 3), 2);
        x.bar(4, 1, 1);
        is("7 all barred", x.may(4, 3), 0);
        x.rule(2);
        x.bar(4, 1, 0);
        is("7 any but the barred", x.may(4, 1), 2);
        x.bar(4, 0, 0);
        is("7 any", x.may(4, 1), 3);
        is("7 any, at its node", x.may(2, 3), 0);
        LaneWaits y = Due.of("n4;0>1;1>2;1>3;3>1");
        y.rule(2);
        is("7 any, by a way round", y.may(0, 2), 6);
        is("7 any, no way", y.may(0, 0), 0);
        is("7 any, the other way leads nowhere", y.may(0, 3), 4);
        y.rule(0);
        is("7 short, no way", y.may(0, 0), 0);
        for (int v : new int[] {-1, 4, MIN, MAX}) {
            is("7 lane", y.may(v, 0), UNKNOWN);
            is("7 node", y.may(0, v), UNKNOWN);
        }
    }

    private void p08() {
        LaneWaits x = Due.of(DIAMOND);
        is("8 short", x.out(0, 3), 3);
        is("8 the same", x.out(3, 3), 0);
        x.bar(4, 0, 1);
        is("8 bars do not count", x.out(0, 1), 1);
        is("8 short, one", x.out(0, 2), 2);
        x.rule(2);
        is("8 any", x.out(0, 2), 3);
        is("8 any, the same", x.out(0, 0), 0);
        x.rule(1);
        is("8 first", x.out(0, 3), 1);
        is("8 none", Due.of("n3;0>1").out(0, 2), 0);
        for (int v : new int[] {-1, 4, MIN, MAX}) {
            is("8 from", x.out(v, 0), UNKNOWN);
            is("8 to", x.out(0, v), UNKNOWN);
        }
    }

    private void p09() {
        LaneWaits x = Due.of(DIAMOND);
        is("9 both ways", x.comes(0, 3), 2);
        x.bar(0, 2, 1);
        is("9 one is a dead end", x.comes(0, 3), 1);
        is("9 from behind it", x.comes(1, 3), 2);
        x.bar(1, 3, 1);
        is("9 both are", x.comes(0, 3), 0);
        x.bar(0, 2, 0);
        x.rule(1);
        is("9 first takes the good one", x.comes(0, 3), 2);
        LaneWaits y = Due.of(LINE);
        y.rule(2);
        is("9 a way that comes back", y.comes(0, 2), 1);
        is("9 none comes back", y.comes(0, 1), 2);
        y.bar(0, 1, 1);
        is("9 barred, it does not", y.comes(0, 2), 2);
        y.bar(0, 2, 1);
        is("9 nothing", y.comes(0, 2), 0);
        LaneWaits z = Due.of("n3;0>1");
        is("9 no way", z.comes(1, 0), 0);
        is("9 one lane", z.comes(0, 1), 2);
        is("9 same", z.comes(1, 1), OUTSIDE);
        is("9 node", z.comes(3, 3), UNKNOWN);
        is("9 node", z.comes(0, -1), UNKNOWN);
    }

    private void p10() {
        LaneWaits x = Due.of(RING);
        is("10 two", x.carries(0), 6);
        x.bar(0, 1, 1);
        is("10 one sets out into it", x.carries(1), 5);
        x.bar(1, 2, 1);
        is("10 none comes on", x.carries(2), 3);
        LaneWaits y = Due.of(DIAMOND);
        is("10 short", y.carries(1), 4 + 8);
        y.rule(1);
        is("10 first", y.carries(1), 4);
        y.rule(2);
        is("10 any", y.carries(1), 2 + 4 + 8);
        y.rule(1);
        y.bar(4, 0, 1);
        is("10 what goes on counts", y.carries(1), 4);
        LaneWaits z = Due.of("n3;0>1;1>0;1>0;2>1");
        z.rule(1);
        is("10 not in the second", z.carries(2), 0);
        z.bar(3, 1, 1);
        is("10 but by a bar", z.carries(2), 1);
        for (int c : new int[] {-1, 4, MIN, MAX}) is("10 lane", z.carries(c), UNKNOWN);
    }

    private void p11() {
        LaneWaits x = Due.of(RING);
        is("11 next", x.waits(2), 1);
        x.bar(2, 0, 1);
        is("11 barred", x.waits(2), 0);
        LaneWaits y = Due.of(DIAMOND);
        is("11 both", y.waits(4), 3);
        is("11 none at its node counts", y.waits(0), 4);
        LaneWaits z = Due.of(LINE);
        is("11 short ends", z.waits(1), 0);
        z.rule(2);
        is("11 any goes back", z.waits(1), 1);
        is("11 any", z.waits(0), 6);
        for (int c : new int[] {-1, 4, MIN, MAX}) is("11 lane", z.waits(c), UNKNOWN);
    }

    private void p12() {
        LaneWaits x = Due.of(RING);
        int[] row = {3, 0, 1, 2, NONE, NONE, NONE, NONE, NONE, NONE, NONE};
        for (int k = -1; k <= 9; k++) is("12 ring", x.ring(k), row[k + 1]);
        x.bar(1, 2, 1);
        is("12 broken", x.ring(-1), 0);
        is("12 none", x.ring(0), NONE);
        LaneWaits y = Due.of("n3;2>0;0>2;1>0;2>1;0>1;1>2");
        y.rule(2);
        // Each lane waits for its way back, 0 for 1 first.
        is("12 short one", y.ring(-1), 2);
        is("12 least", y.ring(0), 0);
        is("12 next", y.ring(1), 1);
        y.bar(0, 1, 1);
        is("12 other", y.ring(0), 2);
        is("12 other next", y.ring(1), 4);
        LaneWaits z = Due.of("n4;2>3;1>2;3>0;0>1;3>0");
        // Each waits for the one ahead of it; of 2 and 4 beside each other 2 is first.
        is("12 four", z.ring(-1), 4);
        is("12 begins with the least", z.ring(0), 0);
        is("12 in the order of waiting", z.ring(1), 2);
        is("12 then", z.ring(2), 3);
        is("12 last", z.ring(3), 1);
        z.bar(0, 2, 1);
        is("12 by the other", z.ring(1), 4);
        // By 4 there is a longer way back to 0 beside the ring.
        LaneWaits w = Due.of("n5;0>1;1>2;2>3;3>0;3>4;4>0");
        w.rule(2);
        is("12 the shorter way", w.ring(-1), 4);
        for (int k = 0; k < 4; k++) is("12 its row", w.ring(k), k);
        w.bar(2, 3, 1);
        int[] round = {5, 0, 1, 2, 4, 5, NONE};
        for (int k = -1; k < 6; k++) is("12 the way round", w.ring(k), round[k + 1]);
        is("12 k", x.ring(-2), UNKNOWN);
        is("12 k", x.ring(10), UNKNOWN);
        is("12 no net", new LaneWaits().ring(0), STATE);
        is("12 k first", new LaneWaits().ring(10), UNKNOWN);
    }

    private void p13() {
        LaneWaits x = Due.of("n4;0>1;1>0;1>2;2>1;2>3;3>2");
        int[] ranks = {2, 0, 1, 1, 0, 2};
        for (int c = 0; c < 6; c++) is("13 rank", x.rank(c), ranks[c]);
        x.bar(0, 2, 1);
        is("13 barred", x.rank(0), 0);
        x.bar(0, 2, 0);
        x.rule(2);
        is("13 ring", x.rank(0), STATE);
        is("13 lane", x.rank(6), UNKNOWN);
        is("13 lane", x.rank(-1), UNKNOWN);
        LaneWaits y = Due.of("n6;4>5;3>4;2>3;1>2;0>1");
        for (int c = 0; c < 5; c++) is("13 chain", y.rank(c), c);
    }

    private void p14() {
        LaneWaits x = Due.of(RING);
        is("14 all", x.still(0), 7);
        is("14 least", x.still(1), 7);
        x.bar(1, 2, 1);
        is("14 all by one that is stuck", x.still(0), 7);
        is("14 least is that one", x.still(1), 2);
        x.bar(0, 1, 1);
        is("14 least as a number", x.still(1), 1);
        LaneWaits y = Due.of(LINE);
        is("14 none", y.still(0), 0);
        is("14 no least", y.still(1), 0);
        y.rule(2);
        is("14 any", y.still(0), 15);
        is("14 needs all", y.still(1), 15);
        // 0, 1 and 3 are the ring; lane 2 only leads into it.
        LaneWaits z = Due.of("n4;0>1;1>3;2>0;3>0");
        is("14 all, with one that waits for it", z.still(0), 15);
        is("14 least is the ring", z.still(1), 11);
        is("14 what", z.still(-1), OUTSIDE);
        is("14 what", z.still(2), OUTSIDE);
        is("14 no net", new LaneWaits().still(1), STATE);
        is("14 what first", new LaneWaits().still(2), OUTSIDE);
    }

    private void p15() {
        LaneWaits x = Due.of("n2;0>1;1>0");
        is("15 four", x.states(0), 4);
        is("15 none dead", x.states(1), 0);
        is("15 none comes", x.states(2), NONE);
        LaneWaits y = Due.of(RING);
        is("15 ring", y.states(0), 27);
        is("15 one dead", y.states(1), 1);
        is("15 three steps", y.states(2), 3);
        y.bar(0, 1, 1);
        // Dead are all with one for 2 in lane 0: 3 times 3.
        is("15 stuck ones", y.states(1), 9);
        is("15 one step", y.states(2), 1);
        y.bar(0, 1, 0);
        is("15 open again", y.states(1), 1);
        LaneWaits z = Due.of(LINE);
        is("15 line", z.states(0), 3 * 2 * 2 * 3);
        is("15 line has no dead", z.states(1), 0);
        z.rule(2);
        // For 2, 2, 0, 0 in the lanes 0 .. 3: nothing else is dead.
        is("15 any", z.states(0), 81);
        is("15 any, dead", z.states(1), 1);
        is("15 any, steps", z.states(2), 4);
        // By the bar lane 2 is come into from lane 3 alone; 1, 1, 1 and 2 nodes are carried.
        LaneWaits w = Due.of("n3;0>1;1>0;1>0;2>1");
        w.rule(1);
        is("15 not into lane 2", w.states(0), 2 * 2 * 3);
        w.bar(3, 1, 1);
        is("15 going on", w.states(0), 2 * 2 * 2 * 3);
        // The same with the lanes turned round: it goes on into lane 0.
        LaneWaits v = Due.of("n3;1>0;2>1;0>1;1>0");
        v.rule(1);
        v.bar(1, 0, 1);
        is("15 going on into the last", v.states(0), 2 * 3 * 2 * 2);
        // Lane 1 is come into from lane 0 alone, and stuck there: two steps.
        LaneWaits u = Due.of("n4;3>0;0>1;0>1;1>2");
        u.rule(1);
        u.bar(2, 3, 1);
        u.bar(0, 1, 1);
        is("15 stuck by going on", u.states(2), 2);
        is("15 five nodes", Due.of("n5;0>1").states(0), STATE);
        is("15 seven lanes", Due.of("n2;0>1;0>1;0>1;0>1;0>1;0>1;0>1").states(0), STATE);
        is("15 six lanes", Due.of("n4;0>1;0>1;0>1;0>1;0>1;0>1").states(0), 64);
        is("15 two cells", Due.of("n2;0>1;1>0*2").states(0), STATE);
        is("15 one cell, told", Due.of("n2;0>1;1>0*1").states(0), 4);
        is("15 no net", new LaneWaits().states(0), STATE);
        is("15 what first", new LaneWaits().states(3), OUTSIDE);
        is("15 what", z.states(-1), OUTSIDE);
    }

    private void p16() {
        LaneWaits x = Due.of(PAIR);
        is("16 plain", x.send(0, 0, 1), 0);
        is("16 lane", x.ofLoad(0, 3), 0);
        is("16 hasty", x.send(1, 0, 1), 1);
        is("16 sealed, no room in the first", x.send(2, 0, 1), STATE);
        is("16 plain takes the second", x.send(0, 0, 2), 2);
        is("16 its lane", x.ofLoad(2, 3), 1);
        is("16 no room", x.send(1, 0, 1), STATE);
        is("16 sealed with room", x.send(2, 2, 1), 3);
        is("16 nodes first", x.send(9, 3, 3), UNKNOWN);
        is("16 node", x.send(0, 0, -1), UNKNOWN);
        is("16 kind", x.send(3, 0, 1), OUTSIDE);
        is("16 kind", x.send(-1, 0, 1), OUTSIDE);
        is("16 same", x.send(0, 1, 1), OUTSIDE);
        is("16 no way", Due.of("n3;0>1").send(0, 1, 0), STATE);
        is("16 loads", x.many(2), 4);
        LaneWaits y = Due.of("n2;0>1;1>0");
        for (int l = 0; l < 30; l++) {
            is("16 thirty", y.send(0, 0, 1), l);
            if (l < 29) y.ticks(1);
        }
        is("16 no room comes first", y.send(0, 0, 1), STATE);
        is("16 full", y.send(0, 1, 0), FULL);
        y.ticks(1);
        is("16 full for ever", y.send(0, 0, 1), FULL);
        is("16 thirty loads", y.many(2), 30);
    }

    private void p17() {
        LaneWaits x = Due.of(RING);
        x.send(0, 0, 2);
        is("17 no tick", x.ticks(0), 0);
        is("17 goes on", x.ticks(1), 1);
        is("17 its lane", x.ofLoad(0, 3), 1);
        is("17 home", x.ticks(1), 1);
        is("17 nothing more", x.ticks(50), 0);
        is("17 ticks", x.many(5), 52);
        is("17 n", x.ticks(51), OUTSIDE);
        is("17 n", x.ticks(-1), OUTSIDE);
        is("17 no net", new LaneWaits().ticks(1), STATE);
        is("17 n first", new LaneWaits().ticks(51), OUTSIDE);
        // Lane 2 is empty when its turn comes ahead of 1; 0 comes too early.
        LaneWaits y = Due.of("n4;0>1;2>3;1>2");
        y.send(0, 0, 3);
        y.send(0, 2, 3);
        y.send(0, 1, 3);
        is("17 by numbers", y.ticks(1), 2);
        is("17 0 stays", y.ofLoad(0, 3), 0);
        is("17 1 is home", y.ofLoad(1, 3), NONE);
        is("17 2 goes on", y.ofLoad(2, 3), 1);
        is("17 none moves twice", y.ticks(1), 2);
        is("17 0 is in lane 2", y.ofLoad(0, 3), 2);
        // Lane 0 holds two that are at their node: one leaves at a time.
        LaneWaits z = Due.of("n2;0>1*2");
        z.send(0, 0, 1);
        z.send(1, 0, 1);
        is("17 no second one", z.ticks(1), 1);
        is("17 the hasty one is behind", z.ofLane(0, 10), 1);
        z.send(1, 0, 1);
        z.send(0, 0, 1);
        is("17 a hasty first, then no plain", z.ticks(1), 1);
        LaneWaits w = Due.of("n3;0>1;1>2;1>2");
        w.send(0, 0, 2);
        w.send(0, 1, 2);
        is("17 into the one that has room", w.ticks(1) * 10 + w.ofLoad(0, 3), 22);
    }

    private void p17Hasty() {
        // Both want lane 1: the hasty one in lane 2 goes ahead of the plain one in lane 0.
        LaneWaits x = Due.of("n4;0>2;2>3;1>2");
        x.send(0, 0, 3);
        x.send(1, 1, 3);
        is("17 one goes", x.ticks(1), 1);
        is("17 the hasty one", x.ofLoad(1, 3), 1);
        is("17 the plain one stays", x.ofLoad(0, 3), 0);
        LaneWaits y = Due.of("n4;0>2;2>3;1>2");
        y.send(0, 0, 3);
        y.send(0, 1, 3);
        y.ticks(1);
        is("17 both plain: by numbers", y.ofLoad(0, 3), 1);
        // A hasty one moves first, so it finds lane 1 full; the plain one leaves it behind that.
        LaneWaits z = Due.of("n3;0>1;1>2");
        z.send(1, 0, 2);
        z.send(0, 1, 2);
        is("17 too hasty", z.ticks(1), 1);
        is("17 it stays", z.ofLoad(0, 3), 0);
        is("17 then it goes", z.ticks(1), 1);
        // A sealed one is a hasty one: it, too, comes ahead of the plain one.
        LaneWaits w = Due.of("n4;0>2;2>3;1>2");
        w.send(0, 0, 3);
        w.send(2, 1, 3);
        w.ticks(1);
        is("17 a sealed one is hasty", w.ofLoad(1, 3), 1);
    }

    private void p17Sealed() {
        LaneWaits x = Due.of("n3;0>1;1>2;1>2");
        x.send(2, 0, 2);
        x.send(0, 1, 2);
        is("17 sealed waits for the first", x.ticks(1), 1);
        is("17 it stands", x.ofLoad(0, 3), 0);
        is("17 then it goes", x.ticks(1), 1);
        is("17 into the first", x.ofLoad(0, 3), 1);
        LaneWaits y = Due.of("n3;0>1;1>2;1>2");
        y.bar(0, 1, 1);
        y.send(2, 0, 2);
        y.send(0, 1, 2);
        is("17 the first it may take", y.ticks(1), 2);
        is("17 is lane 2", y.ofLoad(0, 3), 2);
    }

    private void p18() {
        LaneWaits x = Due.of(LINE);
        x.send(2, 2, 0);
        int[] at = {2, 2, 0, 3, 1, NONE, OUTSIDE};
        for (int what = 0; what <= 6; what++) is("18 of load", x.ofLoad(0, what), at[what]);
        x.ticks(2);
        int[] home = {2, 2, 0, NONE, 2, 1};
        for (int what = 0; what <= 5; what++) is("18 home", x.ofLoad(0, what), home[what]);
        x.send(1, 0, 1);
        x.ticks(1);
        is("18 home in the tick of its number", x.ofLoad(1, 5), 2);
        LaneWaits y = Due.of("n2;0>1");
        y.send(0, 0, 1);
        y.ticks(1);
        is("18 tick 0", y.ofLoad(0, 5), 0);
        LaneWaits z = Due.of(LINE);
        z.rule(2);
        z.send(0, 0, 2);
        z.ticks(3);
        // 0, 1, 0, 1: to and fro, as the first lane that it may take is the way back.
        is("18 lanes, each time", z.ofLoad(0, 4), 4);
        for (int l : new int[] {-1, 2, 30, MIN, MAX}) is("18 load", x.ofLoad(l, 99), UNKNOWN);
        for (int what : new int[] {-1, 6, MIN, MAX}) is("18 what", x.ofLoad(0, what), OUTSIDE);
    }

    private void p19() {
        LaneWaits x = Due.of(RING);
        x.send(0, 0, 2);
        x.send(0, 1, 0);
        is("19 room ahead", x.frozen(), 0);
        x.send(0, 2, 1);
        is("19 all three", x.frozen(), 7);
        x.rule(2);
        is("19 any, the same", x.frozen(), 7);
        LaneWaits y = Due.of(RING);
        y.send(0, 0, 2);
        y.send(0, 1, 0);
        y.send(0, 2, 0);
        is("19 one is at its node", y.frozen(), 0);
        LaneWaits z = Due.of(RING);
        z.send(0, 0, 2);
        z.bar(0, 1, 1);
        is("19 nothing that it may take", z.frozen(), 1);
        z.ticks(1);
        z.send(0, 2, 1);
        is("19 and one that wants into its lane", z.frozen(), 3);
        z.send(0, 1, 2);
        is("19 not one that is at its node", z.frozen(), 3);
        LaneWaits w = Due.of("n4;0>1;1>2;2>3");
        w.bar(1, 2, 1);
        w.send(0, 1, 3);
        w.send(0, 0, 3);
        is("19 one that waits for a stuck one", w.frozen(), 3);
        w.bar(1, 2, 0);
        is("19 none is stuck", w.frozen(), 0);
        // Lane 1 is stuck, lane 2 is free: a plain one can go on, a sealed one cannot.
        for (int kind = 0; kind <= 2; kind++) {
            LaneWaits v = Due.of("n4;0>1;1>2;1>2;2>3");
            v.bar(1, 3, 1);
            v.send(0, 1, 3);
            v.send(kind, 0, 3);
            is("19 kind " + kind, v.frozen(), kind == 2 ? 3 : 1);
        }
    }

    private void p19Rooms() {
        LaneWaits x = Due.of("n3;0>1*2;1>2*2;2>0*2");
        x.send(0, 0, 2);
        x.send(0, 0, 1);
        x.send(0, 1, 0);
        x.send(0, 1, 2);
        x.send(0, 2, 1);
        is("19 room for one more", x.frozen(), 0);
        x.send(0, 2, 0);
        is("19 those behind count, too", x.frozen(), 63);
        is("19 none moves", x.ticks(5), 0);
        LaneWaits y = Due.of("n3;0>1*2;1>2*2");
        y.bar(0, 1, 1);
        y.send(0, 0, 2);
        is("19 one first", y.frozen(), 1);
        y.send(0, 0, 1);
        is("19 one behind", y.frozen(), 3);
        LaneWaits z = Due.of("n3;0>1*2;1>2*2");
        z.bar(0, 1, 1);
        z.send(0, 0, 1);
        z.send(0, 0, 2);
        is("19 behind one that leaves", z.frozen(), 0);
    }

    private void p20() {
        LaneWaits x = Due.of(LINE);
        is("20 none needed", x.mend(-1), 0);
        is("20 no first", x.mend(0), NONE);
        LaneWaits y = Due.of(RING);
        for (int k = -1; k <= 1; k++) is("20 not with two", y.mend(k), NONE);
        // Lane 3 from 2 to 0 goes on by lane 2, not 0: and there all are at their node.
        LaneWaits z = Due.of("n3;0>1;1>2;0>1;2>0");
        z.rule(1);
        is("20 one", z.mend(-1), 1);
        is("20 turn", z.mend(0), 30);
        is("20 no second", z.mend(1), NONE);
        is("20 changes nothing", z.many(4), 0);
        is("20 ring stays", z.ring(-1), 3);
        z.bar(3, 0, 1);
        is("20 mended", z.mend(-1), 0);
        is("20 no ring", z.ring(-1), 0);
        z.bar(3, 2, 1);
        is("20 barred too much", z.mend(-1), NONE);
        // Rings 0, 2, 5 and 0, 2, 6, 3, 1: 0 goes on by 4 and 6 by 7, where nothing waits for them.
        LaneWaits w = Due.of("n5;1>2;0>1;2>3;4>0;2>3;3>1;3>4;4>0");
        w.rule(1);
        is("20 two", w.mend(-1), 2);
        is("20 first turn", w.mend(0), 2);
        is("20 second turn", w.mend(1), 63);
        LaneWaits v = Due.of("n3;0>1;1>2");
        is("20 no ring, but it does not come", v.mend(-1), NONE);
        is("20 k", x.mend(-2), UNKNOWN);
        is("20 k", x.mend(2), UNKNOWN);
        is("20 no net", new LaneWaits().mend(0), STATE);
        is("20 k first", new LaneWaits().mend(2), UNKNOWN);
    }

    private void p21() {
        LaneWaits x = Due.of(DIAMOND);
        long[][] shares = {{7, 2}, {7, 2}, {7, 2}, {7, 2}, {7, 1}};
        for (int c = 0; c < 5; c++) {
            is("21 upper", x.bears(c, 0), shares[c][0]);
            is("21 lower", x.bears(c, 1), shares[c][1]);
        }
        x.rule(1);
        // From 0 to 3 all goes by lane 0.
        long[] whole = {4, 3, 4, 3, 7};
        for (int c = 0; c < 5; c++) is("21 first", x.bears(c, 0), whole[c]);
        x.bar(0, 2, 1);
        is("21 it does not come", x.bears(1, 0), LOST);
        LaneWaits y = Due.of("n2;0>1;0>1;0>1;1>0;1>0;1>0;1>0;1>0;1>0");
        is("21 third", y.bears(2, 1), 3);
        is("21 one", y.bears(2, 0), 1);
        is("21 sixth", y.bears(8, 1), 6);
        y.rule(1);
        is("21 nothing", y.bears(1, 0), 0);
        is("21 nothing, of one", y.bears(1, 1), 1);
        is("21 rings do not matter", Due.of(RING).bears(0, 0), 3);
        is("21 lane", y.bears(9, 0), LOST);
        is("21 lane", y.bears(-1, 0), LOST);
        is("21 which", y.bears(0, 2), LOST);
        is("21 which", y.bears(0, -1), LOST);
        is("21 state", Due.of("n2;0>1").bears(0, 0), LOST);
        LaneWaits z = Due.of(LINE);
        z.rule(2);
        is("21 by some ways is not enough", z.bears(0, 0), LOST);
    }

    private void p22() {
        is("22 most", Due.of(DIAMOND).busiest(), 4);
        is("22 least number", Due.of(RING).busiest(), 0);
        is("22 halves", Due.of("n2;0>1;0>1;1>0;1>0;1>0").busiest(), 0);
        is("22 a whole one", Due.of("n2;0>1;0>1;1>0").busiest(), 2);
        is("22 not so", Due.of("n2;0>1").busiest(), STATE);
        is("22 no net", new LaneWaits().busiest(), STATE);
    }

    private void p23() {
        LaneWaits x = new LaneWaits();
        is("23 row", x.sheet(0, 0, 60), 1);
        x.put(0, 59, 7);
        is("23 anew", x.sheet(0, 2, 60), 1);
        is("23 zeros", x.cell(0, 59, 2), 0);
        is("23 none", x.sheet(3, 1, 0), 1);
        is("23 no cell", x.put(3, 0, 1), INDEX);
        x.put(0, 5, 9);
        int[][] calls = {{-1, 9, 99, UNKNOWN, 0}, {4, 0, 1, UNKNOWN, 0}, {0, 3, -1, OUTSIDE, 0}, {0, -1, 1, OUTSIDE, 0},
            {0, 0, 61, OUTSIDE, 0}, {0, 0, MAX, OUTSIDE, 0}, {0, 0, -1, SIZE, 4}, {0, 1, MIN, SIZE, 4}};
        for (int[] c : calls) {
            is("23 refused", x.sheet(c[0], c[1], c[2]), c[3]);
            is("23 fault", x.fault(), c[4]);
        }
        is("23 stays", x.cell(0, 5, 2), 9);
        x.sheet(0, 0, -1);
        x.sheet(0, 0, 1);
        is("23 no fault", x.fault(), 0);
    }

    private void p24() {
        LaneWaits x = new LaneWaits();
        is("24 nothing", x.lose(2), 0);
        x.sheet(2, 0, 0);
        x.put(2, 0, 0);
        is("24 lost", x.lose(2), 1);
        is("24 names no fault", x.fault(), 3);
        is("24 gone", x.lose(2), 0);
        is("24 put", x.put(2, 0, 0), NULL);
        is("24 unknown", x.lose(4), UNKNOWN);
        is("24 unknown", x.lose(-1), UNKNOWN);
    }

    private void p25() {
        LaneWaits x = new LaneWaits();
        is("25 nothing", x.put(1, 99, 0), NULL);
        is("25 fault", x.fault(), 1);
        x.sheet(1, 0, 3);
        is("25 put", x.put(1, 2, 200), 1);
        is("25 cut", x.cell(1, 2, 0), -56);
        is("25 fault", x.fault(), 0);
        for (int i : new int[] {-1, 3, MIN, MAX}) {
            is("25 index", x.put(1, i, 0), INDEX);
            is("25 fault", x.fault(), 3);
        }
        is("25 unknown", x.put(4, 99, 0), UNKNOWN);
        is("25 refused", x.fault(), 0);
        x.sheet(1, 1, 1);
        x.put(1, 0, 70000);
        is("25 short", x.cell(1, 0, 1), 4464);
        x.sheet(1, 2, 1);
        x.put(1, 0, MIN);
        is("25 int", x.cell(1, 0, 2), MIN);
    }

    private void p26() {
        LaneWaits x = new LaneWaits();
        is("26 nothing is no cast", x.cell(0, 0, 2), LOST);
        is("26 null", x.fault(), 1);
        x.sheet(0, 1, 2);
        x.put(0, 1, -5);
        is("26 cell", x.cell(0, 1, 1), -5);
        is("26 fine", x.fault(), 0);
        is("26 cast ahead of index", x.cell(0, 9, 0), LOST);
        is("26 cast", x.fault(), 2);
        for (int i : new int[] {-1, 2, MIN, MAX}) {
            is("26 index", x.cell(0, i, 1), LOST);
            is("26 fault", x.fault(), 3);
        }
        is("26 sort", x.cell(0, 0, 3), LOST);
        is("26 refused", x.fault(), 0);
        x.cell(0, 2, 1);
        is("26 unknown", x.cell(-1, 0, 1), LOST);
        is("26 refused, too", x.fault(), 0);
    }

    private void p27() {
        LaneWaits x = new LaneWaits();
        x.sheet(0, 1, 5);
        for (int i = 0; i < 5; i++) x.put(0, i, 10 + i);
        is("27 up", x.copy(0, 0, 0, 1, 4), 4);
        int[] up = {10, 10, 11, 12, 13};
        for (int i = 0; i < 5; i++) is("27 as they were", x.cell(0, i, 1), up[i]);
        is("27 down", x.copy(0, 2, 0, 0, 3), 3);
        int[] down = {11, 12, 13, 12, 13};
        for (int i = 0; i < 5; i++) is("27 as they were", x.cell(0, i, 1), down[i]);
        x.sheet(1, 1, 2);
        is("27 to another", x.copy(0, 3, 1, 0, 2), 2);
        is("27 there", x.cell(1, 1, 1), 13);
        is("27 none, at the ends", x.copy(0, 5, 1, 2, 0), 0);
        x.sheet(2, 0, 5);
        int[][] calls = {{4, 0, 0, 0, 1, UNKNOWN, 0}, {0, 0, -1, 0, 1, UNKNOWN, 0}, {3, -1, 2, 0, 1, NULL, 1},
            {2, 0, 3, -1, 1, NULL, 1}, {2, -1, 0, 0, 1, CAST, 2}, {0, -1, 1, 0, 1, INDEX, 3}, {0, 0, 1, -1, 1, INDEX, 3},
            {0, 0, 1, 0, -1, INDEX, 3}, {0, 4, 1, 0, 2, INDEX, 3}, {0, 0, 1, 1, 2, INDEX, 3}, {0, 6, 1, 0, 0, INDEX, 3},
            {0, 0, 1, 3, 0, INDEX, 3}, {0, 1, 1, 0, MAX, INDEX, 3}, {0, MAX, 1, 0, MAX, INDEX, 3}, {0, 0, 1, MIN, 1, INDEX, 3}};
        for (int[] c : calls) {
            is("27 refused", x.copy(c[0], c[1], c[2], c[3], c[4]), c[5]);
            is("27 fault", x.fault(), c[6]);
        }
        is("27 stays", x.cell(1, 0, 1), 12);
        x.copy(0, 9, 1, 0, 1);
        is("27 unknown", x.copy(9, 9, 1, 0, 1), UNKNOWN);
        is("27 refused", x.fault(), 0);
        x.copy(0, 9, 1, 0, 1);
        x.copy(0, 0, 1, 0, 1);
        is("27 no fault", x.fault(), 0);
    }

    private void p28() {
        LaneWaits x = Due.of(PAIR);
        x.send(0, 0, 2);
        x.send(1, 1, 2);
        x.send(2, 2, 1);
        is("28 plain", x.tell(0), 2);
        is("28 trace", x.trace(), 1);
        is("28 hasty", x.tell(1), 112);
        is("28 trace", x.trace(), (1 * 31 + 2) * 31 + 1);
        is("28 sealed", x.tell(2), 121 + 21);
        is("28 trace", x.trace(), ((((1024 * 31 + 3) * 31) + 2) * 31 + 1) * 31 + 1);
        x.ticks(9);
        is("28 home ones, too", x.tell(1), 112);
        int before = x.trace();
        for (int l : new int[] {-1, 3, MIN, MAX}) is("28 load", x.tell(l), UNKNOWN);
        is("28 trace stays", x.trace(), before);
    }

    private void p29() {
        LaneWaits x = Due.of(PAIR);
        x.send(2, 2, 1);
        x.send(1, 1, 2);
        x.send(0, 0, 2);
        is("29 sealed", x.stamp(0), 90);
        is("29 trace", x.trace(), 5);
        is("29 hasty", x.stamp(1), 1);
        is("29 trace", x.trace(), 5 * 31 + 4);
        is("29 plain", x.stamp(2), 2);
        is("29 trace", x.trace(), (5 * 31 + 4) * 31 + 4);
        for (int l : new int[] {-1, 3, MIN, MAX}) is("29 load", x.stamp(l), UNKNOWN);
    }

    private void p30() {
        LaneWaits x = Due.of(PAIR);
        x.send(0, 0, 2);
        x.send(1, 1, 2);
        x.send(2, 2, 1);
        for (int l = 0; l < 3; l++) {
            for (int kind = 0; kind < 3; kind++) {
                is("30 as", x.as(l, kind), kind <= l ? 1 : CAST);
                is("30 fault", x.fault(), kind <= l ? 0 : 2);
            }
        }
        x.as(0, 2);
        is("30 load first", x.as(3, 9), UNKNOWN);
        is("30 refused", x.fault(), 0);
        x.as(0, 2);
        is("30 kind", x.as(0, 3), OUTSIDE);
        is("30 refused", x.fault(), 0);
        is("30 kind", x.as(0, -1), OUTSIDE);
        is("30 load", x.as(-1, 0), UNKNOWN);
        is("30 leaves no trace", x.trace(), 0);
    }

    private void p31() {
        LaneWaits x = Due.of("n2;0>1");
        x.send(2, 0, 1);
        int want = 0;
        for (int k = 0; k < 20; k++) {
            x.tell(0);
            for (int body : new int[] {3, 2, 1, 1}) want = 31 * want + body;
            is("31 wraps", x.trace(), want);
        }
    }

    private void p32() {
        LaneWaits x = new LaneWaits();
        is("32 ahead of any", x.fault(), 0);
        x.put(0, 0, 0);
        is("32 null", x.fault(), 1);
        is("32 stays", x.fault(), 1);
        x.lose(0);
        x.far(0, 0);
        x.rule(9);
        x.tell(0);
        x.stamp(0);
        x.send(0, 0, 0);
        x.many(9);
        is("32 others name none", x.fault(), 1);
        x.as(0, 0);
        is("32 refused", x.fault(), 0);
        x.sheet(0, 0, -1);
        is("32 size", x.fault(), 4);
        x.sheet(0, 0, 1);
        is("32 came to none", x.fault(), 0);
        x.cell(0, 0, 1);
        is("32 cast", x.fault(), 2);
        x.net(0, 0, 0, 1);
        is("32 a bad text is none", x.fault(), 0);
        x.copy(0, 0, 0, 0, 2);
        is("32 index", x.fault(), 3);
        x.put(0, 0, 1);
        is("32 put", x.fault(), 0);
    }

    private void p33() {
        LaneWaits x = Due.of(PAIR);
        x.send(0, 0, 1);
        x.send(0, 0, 2);
        x.send(0, 2, 0);
        x.bar(0, 2, 1);
        x.bar(2, 3, 1);
        x.bar(2, 3, 0);
        x.ticks(2);
        int[] many = {3, 4, 3, 1, 1, 2};
        for (int what = 0; what <= 5; what++) is("33 many", x.many(what), many[what]);
        for (int what : new int[] {-1, 6, MIN, MAX}) is("33 what", x.many(what), OUTSIDE);
    }
}
