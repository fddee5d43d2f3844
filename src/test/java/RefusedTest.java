/**
 * Each refused call and each fault, promise by promise: what it answers, that the first reason in
 * the order told counts, what fault() tells behind it, and that nothing else has changed.
 */
public final class RefusedTest {
    private static final int UNKNOWN = -1, OUTSIDE = -2, STATE = -3, FULL = -4, NONE = -9;
    private static final int NULL = -11, CAST = -12, INDEX = -13, SIZE = -14;
    private static final int MIN = Integer.MIN_VALUE, MAX = Integer.MAX_VALUE;
    private static final long LOST = Long.MIN_VALUE;
    /** What fault() tells ahead of the call: one that names no FAULTS leaves it. */
    private static final int KEPT = 3;

    private static final Due DUE = new Due("RefusedTest");
    /** No net, no sheets. */
    private static final Twins BARE = new Twins(DUE, RefusedTest::bare);
    /** 4 nodes, 5 lanes, 5 loads, sheets of all sorts; lane 2's only turn is barred. */
    private static final Twins BUSY = new Twins(DUE, RefusedTest::busy);
    /** A ring, and all comes, whatever it takes. */
    private static final Twins RING = new Twins(DUE, RefusedTest::ring);
    /** 30 loads there were, lane 0 has no room. */
    private static final Twins THIRTY = new Twins(DUE, RefusedTest::thirty);

    public static void main(String[] args) {
        p02(); p02Faults(); p02Texts();
        p03(); p04(); p05(); p06(); p07(); p08(); p09(); p10(); p11(); p12(); p13(); p14(); p15();
        p16(); p16Full(); p17(); p18(); p20(); p21(); p22();
        p23(); p24(); p25(); p26(); p27(); p27Index(); p28(); p29(); p30(); p33();
        DUE.end();
    }

    private static LaneWaits bare() {
        LaneWaits x = new LaneWaits();
        x.sheet(0, 0, 0);
        x.put(0, 0, 0);
        x.lose(0);
        return x;
    }

    private static LaneWaits busy() {
        LaneWaits x = Due.of("n4;0>1;0>2*2;1>3;2>3;3>0*2");
        x.rule(1);
        x.bar(4, 0, 1);
        x.bar(2, 4, 1);
        x.send(0, 0, 1);
        x.ticks(1);
        x.send(1, 0, 2);
        x.send(2, 0, 2);
        x.send(0, 1, 0);
        x.send(1, 3, 2);
        x.tell(2);
        x.stamp(3);
        x.sheet(1, 1, 3);
        x.put(1, 0, 'n');
        x.put(1, 1, '2');
        x.put(1, 2, ';');
        x.sheet(2, 2, 0);
        x.put(1, 3, 0);
        return x;
    }

    private static LaneWaits ring() {
        LaneWaits x = Due.of("n3;0>1;1>2;2>0");
        x.put(0, 60, 0);
        return x;
    }

    private static LaneWaits thirty() {
        LaneWaits x = Due.of("n2;0>1;1>0");
        for (int l = 0; l < 30; l++) {
            x.ticks(1);
            x.send(0, 0, 1);
        }
        x.put(0, 60, 0);
        return x;
    }

    // ---- 1 the net

    private static void p02() {
        for (int k : new int[] {-1, 4, MIN, MAX}) BUSY.leaves("2 UNKNOWN", x -> x.net(k, 0, 0, 1), UNKNOWN, 0);
        for (int s : new int[] {-1, 3, MIN, MAX}) BUSY.leaves("2 OUTSIDE: sort", x -> x.net(0, s, 0, 1), OUTSIDE, 0);
        BUSY.leaves("2 UNKNOWN ahead of OUTSIDE", x -> x.net(4, 3, -1, -1), UNKNOWN, 0);
        BUSY.leaves("2 OUTSIDE ahead of CAST", x -> x.net(1, 3, -1, -1), OUTSIDE, 0);
        BUSY.leaves("2 OUTSIDE ahead of NULL", x -> x.net(3, -1, -1, -1), OUTSIDE, 0);
        BARE.leaves("2 UNKNOWN, no net", x -> x.net(4, 0, 0, 0), UNKNOWN, 0);
    }

    private static void p02Faults() {
        int[] sortOf = {0, 1, 2};
        for (int k = 0; k < 3; k++) {
            int sheet = k;
            for (int sort = 0; sort < 3; sort++) {
                int taken = sort;
                if (sortOf[k] == sort) continue;
                BUSY.leaves("2 CAST", x -> x.net(sheet, taken, 0, 0), CAST, 2);
                BUSY.leaves("2 CAST ahead of SIZE, INDEX", x -> x.net(sheet, taken, -1, -1), CAST, 2);
            }
        }
        for (int sort = 0; sort < 3; sort++) {
            int taken = sort;
            BUSY.leaves("2 nothing is no CAST, but NULL", x -> x.net(3, taken, 0, 0), NULL, 1);
            BUSY.leaves("2 NULL ahead of SIZE, INDEX", x -> x.net(3, taken, -1, -1), NULL, 1);
            BARE.leaves("2 NULL, no net", x -> x.net(0, taken, 0, 0), NULL, 1);
        }
        BUSY.leaves("2 SIZE: n is below 0", x -> x.net(1, 1, 0, -1), SIZE, 4);
        BUSY.leaves("2 SIZE, far below", x -> x.net(1, 1, 3, MIN), SIZE, 4);
        BUSY.leaves("2 SIZE ahead of INDEX, i below 0", x -> x.net(1, 1, -1, -1), SIZE, 4);
        BUSY.leaves("2 SIZE ahead of INDEX, i beyond", x -> x.net(1, 1, 4, -1), SIZE, 4);
        BUSY.leaves("2 SIZE of an empty row", x -> x.net(2, 2, 0, -1), SIZE, 4);
        int[][] beyond = {{0, 4}, {1, 3}, {3, 1}, {4, 0}, {-1, 0}, {-1, 1}, {-1, 4}, {MIN, 0}, {MAX, 0}, {0, MAX}, {1, MAX},
            {3, MAX}, {MAX, 1}, {MAX, MAX}, {MIN, MAX}};
        for (int[] b : beyond) BUSY.leaves("2 INDEX of " + b[0] + ", " + b[1], x -> x.net(1, 1, b[0], b[1]), INDEX, 3);
        for (int[] b : new int[][] {{0, 1}, {1, 0}, {-1, 0}}) {
            BUSY.leaves("2 INDEX of an empty row", x -> x.net(2, 2, b[0], b[1]), INDEX, 3);
        }
    }

    private static void p02Texts() {
        BUSY.leaves("2 a text that is not taken", x -> x.net(1, 1, 0, 3), -103, 0);
        BUSY.leaves("2 a wrong code", x -> x.net(1, 1, 1, 2), -100, 0);
        BUSY.leaves("2 none of a row, at its begin", x -> x.net(1, 1, 0, 0), -100, 0);
        BUSY.leaves("2 none of a row, at its end", x -> x.net(1, 1, 3, 0), -100, 0);
        BUSY.leaves("2 none of an empty row", x -> x.net(2, 2, 0, 0), -100, 0);
        // Of its 26 codes the last but one is a * that needs a digit behind it.
        BUSY.leaves("2 all but the last code", x -> x.net(0, 0, 0, 25), -125, 0);
    }

    private static void p03() {
        for (int c : new int[] {-1, 5, 9, 10, MIN, MAX}) {
            BUSY.leaves("3 UNKNOWN", x -> x.ofLane(c, 0), UNKNOWN, KEPT);
            BUSY.leaves("3 UNKNOWN ahead of OUTSIDE", x -> x.ofLane(c, 4), UNKNOWN, KEPT);
        }
        for (int what : new int[] {-1, 4, 5, 9, 12, 13, MIN, MIN + 9, MIN + 10, MIN + 11, MAX}) {
            BUSY.leaves("3 OUTSIDE of " + what, x -> x.ofLane(1, what), OUTSIDE, KEPT);
        }
        BUSY.leaves("3 no such k, of an empty lane", x -> x.ofLane(0, 10), OUTSIDE, KEPT);
        BUSY.leaves("3 no such k, of one load", x -> x.ofLane(2, 11), OUTSIDE, KEPT);
        BARE.leaves("3 UNKNOWN, no net", x -> x.ofLane(0, 0), UNKNOWN, KEPT);
    }

    private static void p04() {
        for (int v : new int[] {-1, 4, 5, 6, MIN, MAX}) {
            BUSY.leaves("4 UNKNOWN x", x -> x.far(v, 0), UNKNOWN, KEPT);
            BUSY.leaves("4 UNKNOWN y", x -> x.far(0, v), UNKNOWN, KEPT);
            BUSY.leaves("4 UNKNOWN both", x -> x.far(v, v), UNKNOWN, KEPT);
        }
        BARE.leaves("4 UNKNOWN, no net", x -> x.far(0, 0), UNKNOWN, KEPT);
    }

    // ---- 2 rules, turns

    private static void p05() {
        for (int v : new int[] {-1, 3, MIN, MAX}) {
            BUSY.leaves("5 OUTSIDE", x -> x.rule(v), OUTSIDE, KEPT);
            BARE.leaves("5 OUTSIDE, no net", x -> x.rule(v), OUTSIDE, KEPT);
        }
    }

    private static void p06() {
        for (int v : new int[] {-1, 5, MIN, MAX}) {
            BUSY.leaves("6 UNKNOWN c", x -> x.bar(v, 0, 1), UNKNOWN, KEPT);
            BUSY.leaves("6 UNKNOWN d", x -> x.bar(0, v, 1), UNKNOWN, KEPT);
            BUSY.leaves("6 UNKNOWN ahead of OUTSIDE", x -> x.bar(0, v, 2), UNKNOWN, KEPT);
        }
        for (int v : new int[] {-1, 2, MIN, MAX}) {
            BUSY.leaves("6 OUTSIDE: v", x -> x.bar(0, 2, v), OUTSIDE, KEPT);
            BUSY.leaves("6 OUTSIDE: v, of a barred one", x -> x.bar(4, 0, v), OUTSIDE, KEPT);
            BUSY.leaves("6 OUTSIDE ahead of STATE", x -> x.bar(0, 3, v), OUTSIDE, KEPT);
        }
        for (int v = 0; v <= 1; v++) {
            int told = v;
            BUSY.leaves("6 STATE: d leads from elsewhere", x -> x.bar(0, 3, told), STATE, KEPT);
            BUSY.leaves("6 STATE: c leads to where d does", x -> x.bar(2, 3, told), STATE, KEPT);
            BUSY.leaves("6 STATE: the other way round", x -> x.bar(2, 0, told), STATE, KEPT);
            BUSY.leaves("6 STATE: itself", x -> x.bar(1, 1, told), STATE, KEPT);
        }
        BUSY.leaves("6 barred once more", x -> x.bar(4, 0, 1), 1, KEPT);
        BUSY.leaves("6 not barred, once more", x -> x.bar(0, 2, 0), 0, KEPT);
        BARE.leaves("6 UNKNOWN, no net", x -> x.bar(0, 0, 1), UNKNOWN, KEPT);
    }

    private static void p07() {
        for (int v : new int[] {-1, MIN, MAX}) {
            BUSY.leaves("7 UNKNOWN c", x -> x.may(v, 0), UNKNOWN, KEPT);
            BUSY.leaves("7 UNKNOWN y", x -> x.may(0, v), UNKNOWN, KEPT);
        }
        BUSY.leaves("7 UNKNOWN c, the first that is none", x -> x.may(5, 3), UNKNOWN, KEPT);
        BUSY.leaves("7 UNKNOWN y, the first that is none", x -> x.may(4, 4), UNKNOWN, KEPT);
        BARE.leaves("7 UNKNOWN, no net", x -> x.may(0, 0), UNKNOWN, KEPT);
    }

    private static void p08() {
        for (int v : new int[] {-1, 4, MIN, MAX}) {
            BUSY.leaves("8 UNKNOWN x", x -> x.out(v, 0), UNKNOWN, KEPT);
            BUSY.leaves("8 UNKNOWN y", x -> x.out(0, v), UNKNOWN, KEPT);
        }
        BARE.leaves("8 UNKNOWN, no net", x -> x.out(0, 0), UNKNOWN, KEPT);
    }

    private static void p09() {
        for (int v : new int[] {-1, 4, MIN, MAX}) {
            BUSY.leaves("9 UNKNOWN x", x -> x.comes(v, 0), UNKNOWN, KEPT);
            BUSY.leaves("9 UNKNOWN y", x -> x.comes(0, v), UNKNOWN, KEPT);
            BUSY.leaves("9 UNKNOWN ahead of OUTSIDE", x -> x.comes(v, v), UNKNOWN, KEPT);
        }
        for (int v = 0; v < 4; v++) {
            int node = v;
            BUSY.leaves("9 OUTSIDE: it is the same", x -> x.comes(node, node), OUTSIDE, KEPT);
        }
        BARE.leaves("9 UNKNOWN, no net", x -> x.comes(0, 0), UNKNOWN, KEPT);
    }

    // ---- 3 waits

    private static void p10() {
        for (int c : new int[] {-1, 5, MIN, MAX}) BUSY.leaves("10 UNKNOWN", x -> x.carries(c), UNKNOWN, KEPT);
        BARE.leaves("10 UNKNOWN, no net", x -> x.carries(0), UNKNOWN, KEPT);
    }

    private static void p11() {
        for (int c : new int[] {-1, 5, MIN, MAX}) BUSY.leaves("11 UNKNOWN", x -> x.waits(c), UNKNOWN, KEPT);
        BARE.leaves("11 UNKNOWN, no net", x -> x.waits(0), UNKNOWN, KEPT);
    }

    private static void p12() {
        for (int k : new int[] {-2, 10, MIN, MAX}) {
            RING.leaves("12 UNKNOWN: k is not -1 .. 9", x -> x.ring(k), UNKNOWN, KEPT);
            BARE.leaves("12 UNKNOWN ahead of STATE", x -> x.ring(k), UNKNOWN, KEPT);
        }
        for (int k : new int[] {-1, 0, 9}) BARE.leaves("12 STATE: there is no NET", x -> x.ring(k), STATE, KEPT);
        RING.leaves("12 the last that there is", x -> x.ring(2), 2, KEPT);
        RING.leaves("12 NONE, the first that there is not", x -> x.ring(3), NONE, KEPT);
        RING.leaves("12 NONE, the last k", x -> x.ring(9), NONE, KEPT);
    }

    private static void p13() {
        for (int c : new int[] {-1, 5, MIN, MAX}) BUSY.leaves("13 UNKNOWN", x -> x.rank(c), UNKNOWN, KEPT);
        for (int c : new int[] {-1, 3}) RING.leaves("13 UNKNOWN ahead of STATE", x -> x.rank(c), UNKNOWN, KEPT);
        for (int c : new int[] {0, 2}) RING.leaves("13 STATE: there is a RING", x -> x.rank(c), STATE, KEPT);
        BARE.leaves("13 UNKNOWN, no net", x -> x.rank(0), UNKNOWN, KEPT);
    }

    private static void p14() {
        for (int what : new int[] {-1, 2, MIN, MAX}) {
            BUSY.leaves("14 OUTSIDE", x -> x.still(what), OUTSIDE, KEPT);
            BARE.leaves("14 OUTSIDE ahead of STATE", x -> x.still(what), OUTSIDE, KEPT);
        }
        for (int what : new int[] {0, 1}) BARE.leaves("14 STATE: there is no NET", x -> x.still(what), STATE, KEPT);
    }

    // ---- 4 states

    private static void p15() {
        for (int what : new int[] {-1, 3, MIN, MAX}) {
            RING.leaves("15 OUTSIDE", x -> x.states(what), OUTSIDE, KEPT);
            BARE.leaves("15 OUTSIDE ahead of STATE, no net", x -> x.states(what), OUTSIDE, KEPT);
            BUSY.leaves("15 OUTSIDE ahead of STATE, not as told", x -> x.states(what), OUTSIDE, KEPT);
        }
        for (int what : new int[] {0, 1, 2}) {
            BARE.leaves("15 STATE: there is no NET", x -> x.states(what), STATE, KEPT);
            BUSY.leaves("15 STATE: it is not as told", x -> x.states(what), STATE, KEPT);
        }
    }

    // ---- 5 loads

    private static void p16() {
        for (int v : new int[] {-1, 4, MIN, MAX}) {
            BUSY.leaves("16 UNKNOWN x", x -> x.send(0, v, 0), UNKNOWN, KEPT);
            BUSY.leaves("16 UNKNOWN y", x -> x.send(0, 0, v), UNKNOWN, KEPT);
            BUSY.leaves("16 UNKNOWN ahead of OUTSIDE", x -> x.send(3, v, v), UNKNOWN, KEPT);
        }
        for (int kind : new int[] {-1, 3, MIN, MAX}) {
            BUSY.leaves("16 OUTSIDE: kind", x -> x.send(kind, 0, 1), OUTSIDE, KEPT);
            BUSY.leaves("16 OUTSIDE ahead of STATE: kind", x -> x.send(kind, 0, 2), OUTSIDE, KEPT);
        }
        for (int kind = 0; kind <= 2; kind++) {
            int told = kind;
            BUSY.leaves("16 OUTSIDE: it is the same", x -> x.send(told, 0, 0), OUTSIDE, KEPT);
            BUSY.leaves("16 STATE: no room", x -> x.send(told, 0, 2), STATE, KEPT);
            BARE.leaves("16 UNKNOWN, no net", x -> x.send(told, 0, 1), UNKNOWN, KEPT);
        }
        Twins alone = new Twins(DUE, () -> Due.of("n3;0>1"));
        alone.leaves("16 STATE: nothing that it MAY take", x -> x.send(0, 1, 0), STATE, 0);
        alone.leaves("16 STATE, a sealed one", x -> x.send(2, 0, 2), STATE, 0);
        Twins beside = new Twins(DUE, () -> {
            LaneWaits x = Due.of("n2;0>1;0>1");
            x.send(0, 0, 1);
            return x;
        });
        beside.leaves("16 STATE: a sealed one just into the first", x -> x.send(2, 0, 1), STATE, 0);
    }

    private static void p16Full() {
        for (int kind = 0; kind <= 2; kind++) {
            int told = kind;
            THIRTY.leaves("16 FULL", x -> x.send(told, 1, 0), FULL, KEPT);
            THIRTY.leaves("16 STATE ahead of FULL", x -> x.send(told, 0, 1), STATE, KEPT);
        }
        THIRTY.leaves("16 OUTSIDE ahead of FULL", x -> x.send(3, 1, 0), OUTSIDE, KEPT);
        THIRTY.leaves("16 UNKNOWN ahead of FULL", x -> x.send(0, 2, 0), UNKNOWN, KEPT);
    }

    private static void p17() {
        for (int n : new int[] {-1, 51, MIN, MAX}) {
            BUSY.leaves("17 OUTSIDE", x -> x.ticks(n), OUTSIDE, KEPT);
            BARE.leaves("17 OUTSIDE ahead of STATE", x -> x.ticks(n), OUTSIDE, KEPT);
        }
        for (int n : new int[] {0, 1, 50}) BARE.leaves("17 STATE: there is no NET", x -> x.ticks(n), STATE, KEPT);
        BUSY.leaves("17 no ticks", x -> x.ticks(0), 0, KEPT);
    }

    private static void p18() {
        for (int l : new int[] {-1, 5, 29, 30, MIN, MAX}) {
            BUSY.leaves("18 UNKNOWN", x -> x.ofLoad(l, 0), UNKNOWN, KEPT);
            BUSY.leaves("18 UNKNOWN ahead of OUTSIDE", x -> x.ofLoad(l, 6), UNKNOWN, KEPT);
        }
        for (int what : new int[] {-1, 6, MIN, MAX}) BUSY.leaves("18 OUTSIDE", x -> x.ofLoad(4, what), OUTSIDE, KEPT);
        BARE.leaves("18 UNKNOWN, no net", x -> x.ofLoad(0, 0), UNKNOWN, KEPT);
        for (int l : new int[] {30, 31}) THIRTY.leaves("18 UNKNOWN behind the last", x -> x.ofLoad(l, 0), UNKNOWN, KEPT);
    }

    // ---- 6 mends, bears

    private static void p20() {
        for (int k : new int[] {-2, 2, MIN, MAX}) {
            BUSY.leaves("20 UNKNOWN: k is not -1 .. 1", x -> x.mend(k), UNKNOWN, KEPT);
            BARE.leaves("20 UNKNOWN ahead of STATE", x -> x.mend(k), UNKNOWN, KEPT);
        }
        for (int k = -1; k <= 1; k++) {
            int told = k;
            BARE.leaves("20 STATE: there is no NET", x -> x.mend(told), STATE, KEPT);
            RING.leaves("20 NONE: not with two", x -> x.mend(told), NONE, KEPT);
        }
    }

    private static void p21() {
        for (int c : new int[] {-1, 3, MIN, MAX}) RING.leaves("21 LOST: UNKNOWN", x -> x.bears(c, 0), LOST, KEPT);
        for (int w : new int[] {-1, 2, MIN, MAX}) RING.leaves("21 LOST: OUTSIDE", x -> x.bears(0, w), LOST, KEPT);
        for (int w = 0; w <= 1; w++) {
            int which = w;
            BUSY.leaves("21 LOST: STATE", x -> x.bears(1, which), LOST, KEPT);
            BARE.leaves("21 LOST, no net", x -> x.bears(0, which), LOST, KEPT);
        }
    }

    private static void p22() {
        BUSY.leaves("22 STATE: as bears()", x -> x.busiest(), STATE, KEPT);
        BARE.leaves("22 STATE: there is no NET", x -> x.busiest(), STATE, KEPT);
    }

    // ---- 7 sheets, parts

    private static void p23() {
        for (int k : new int[] {-1, 4, MIN, MAX}) {
            BUSY.leaves("23 UNKNOWN", x -> x.sheet(k, 0, 1), UNKNOWN, 0);
            BUSY.leaves("23 UNKNOWN ahead of OUTSIDE, SIZE", x -> x.sheet(k, 3, -1), UNKNOWN, 0);
        }
        for (int sort : new int[] {-1, 3, MIN, MAX}) {
            BUSY.leaves("23 OUTSIDE: sort", x -> x.sheet(1, sort, 1), OUTSIDE, 0);
            BUSY.leaves("23 OUTSIDE ahead of SIZE", x -> x.sheet(1, sort, -1), OUTSIDE, 0);
        }
        for (int n : new int[] {61, 62, MAX}) BUSY.leaves("23 OUTSIDE: n above 60", x -> x.sheet(1, 1, n), OUTSIDE, 0);
        for (int n : new int[] {-1, -60, MIN}) {
            for (int k = 0; k < 4; k++) {
                int told = k;
                BUSY.leaves("23 SIZE", x -> x.sheet(told, 1, n), SIZE, 4);
            }
        }
    }

    private static void p24() {
        for (int k : new int[] {-1, 4, MIN, MAX}) BUSY.leaves("24 UNKNOWN", x -> x.lose(k), UNKNOWN, KEPT);
        BUSY.leaves("24 it had nothing", x -> x.lose(3), 0, KEPT);
        for (int k = 0; k < 4; k++) {
            int told = k;
            BARE.leaves("24 none has anything", x -> x.lose(told), 0, KEPT);
        }
    }

    private static void p25() {
        for (int k : new int[] {-1, 4, MIN, MAX}) BUSY.leaves("25 UNKNOWN", x -> x.put(k, 0, 7), UNKNOWN, 0);
        for (int i : new int[] {-1, 0, 60, MIN, MAX}) {
            BUSY.leaves("25 NULL ahead of INDEX", x -> x.put(3, i, 7), NULL, 1);
            BUSY.leaves("25 INDEX of an empty row", x -> x.put(2, i, 7), INDEX, 3);
        }
        for (int i : new int[] {-1, 3, 4, 59, 60, MIN, MAX}) BUSY.leaves("25 INDEX", x -> x.put(1, i, 7), INDEX, 3);
    }

    private static void p26() {
        for (int k : new int[] {-1, 4, MIN, MAX}) BUSY.leaves("26 LOST: UNKNOWN", x -> x.cell(k, 0, 0), LOST, 0);
        for (int sort : new int[] {-1, 3, MIN, MAX}) {
            BUSY.leaves("26 LOST, OUTSIDE: sort", x -> x.cell(1, 0, sort), LOST, 0);
            BUSY.leaves("26 OUTSIDE ahead of NULL", x -> x.cell(3, 0, sort), LOST, 0);
            BUSY.leaves("26 OUTSIDE ahead of INDEX", x -> x.cell(1, 3, sort), LOST, 0);
        }
        for (int i : new int[] {-1, 0, 3, MIN, MAX}) {
            BUSY.leaves("26 CAST ahead of INDEX, bytes", x -> x.cell(1, i, 0), LOST, 2);
            BUSY.leaves("26 CAST ahead of INDEX, ints", x -> x.cell(1, i, 2), LOST, 2);
            BUSY.leaves("26 CAST of an empty row", x -> x.cell(2, i, 0), LOST, 2);
            for (int sort = 0; sort <= 2; sort++) {
                int told = sort;
                BUSY.leaves("26 nothing is no CAST, but NULL", x -> x.cell(3, i, told), LOST, 1);
            }
            BUSY.leaves("26 INDEX of an empty row", x -> x.cell(2, i, 2), LOST, 3);
        }
        for (int i : new int[] {-1, 3, 4, 60, MIN, MAX}) BUSY.leaves("26 INDEX", x -> x.cell(1, i, 1), LOST, 3);
    }

    private static void p27() {
        for (int k : new int[] {-1, 4, MIN, MAX}) {
            BUSY.leaves("27 UNKNOWN", x -> x.copy(k, 0, 1, 0, 1), UNKNOWN, 0);
            BUSY.leaves("27 UNKNOWN, the other", x -> x.copy(1, 0, k, 0, 1), UNKNOWN, 0);
            BUSY.leaves("27 UNKNOWN, the other, ahead of NULL", x -> x.copy(3, -1, k, -1, -1), UNKNOWN, 0);
        }
        BUSY.leaves("27 NULL, the first", x -> x.copy(3, 0, 1, 0, 0), NULL, 1);
        BUSY.leaves("27 NULL, the other", x -> x.copy(1, 0, 3, 0, 0), NULL, 1);
        BUSY.leaves("27 NULL, both the same", x -> x.copy(3, 0, 3, 0, 0), NULL, 1);
        BUSY.leaves("27 NULL, the first, ahead of INDEX", x -> x.copy(3, -1, 1, -1, -1), NULL, 1);
        BUSY.leaves("27 NULL, the other, ahead of INDEX", x -> x.copy(1, -1, 3, -1, -1), NULL, 1);
        for (int n : new int[] {0, 1, -1, 99}) {
            BUSY.leaves("27 CAST: bytes to shorts", x -> x.copy(0, 0, 1, 0, n), CAST, 2);
            BUSY.leaves("27 CAST: shorts to ints", x -> x.copy(1, 0, 2, 0, n), CAST, 2);
            BUSY.leaves("27 CAST: ints to bytes", x -> x.copy(2, 0, 0, 0, n), CAST, 2);
            BUSY.leaves("27 CAST ahead of INDEX", x -> x.copy(1, -1, 0, 99, n), CAST, 2);
        }
    }

    private static void p27Index() {
        Twins two = new Twins(DUE, () -> {
            LaneWaits x = new LaneWaits();
            x.sheet(0, 1, 4);
            x.sheet(1, 1, 2);
            for (int i = 0; i < 4; i++) x.put(0, i, 10 + i);
            x.put(1, 0, 20);
            x.put(1, 1, 21);
            x.sheet(2, 1, 0);
            return x;
        });
        int[][] wrong = {{-1, 0, 1}, {-1, 0, 0}, {0, -1, 1}, {0, -1, 0}, {0, 0, -1}, {MIN, 0, 0}, {0, MIN, 0}, {0, 0, MIN},
            {5, 0, 0}, {0, 3, 0}, {4, 0, 1}, {3, 0, 2}, {0, 2, 1}, {0, 1, 2}, {0, 0, 3}, {0, 0, 5}, {MAX, 0, 0}, {0, MAX, 0},
            {0, 0, MAX}, {1, 0, MAX}, {0, 1, MAX}, {MAX, 0, MAX}, {0, MAX, MAX}, {MAX, MAX, MAX}, {MAX, 0, 1}, {0, MAX, 1},
            {1, 1, -1}, {4, 2, -1}};
        for (int[] w : wrong) {
            String row = w[0] + ", " + w[1] + ", " + w[2];
            two.leaves("27 INDEX: i, j, n below 0 or beyond: " + row, x -> x.copy(0, w[0], 1, w[1], w[2]), INDEX, 3);
        }
        two.leaves("27 INDEX, beyond in the same", x -> x.copy(0, 0, 0, 1, 4), INDEX, 3);
        two.leaves("27 INDEX of an empty row", x -> x.copy(2, 0, 1, 0, 1), INDEX, 3);
        two.leaves("27 INDEX into an empty row", x -> x.copy(1, 0, 2, 0, 1), INDEX, 3);
        two.leaves("27 none, at both ends", x -> x.copy(0, 4, 1, 2, 0), 0, 0);
        two.leaves("27 none, of empty rows", x -> x.copy(2, 0, 2, 0, 0), 0, 0);
        two.leaves("27 all, where they are", x -> x.copy(0, 0, 0, 0, 4), 4, 0);
    }

    private static void p28() {
        for (int l : new int[] {-1, 5, 30, MIN, MAX}) BUSY.leaves("28 UNKNOWN", x -> x.tell(l), UNKNOWN, KEPT);
        BARE.leaves("28 UNKNOWN, no net", x -> x.tell(0), UNKNOWN, KEPT);
        THIRTY.leaves("28 UNKNOWN behind the last", x -> x.tell(30), UNKNOWN, KEPT);
    }

    private static void p29() {
        for (int l : new int[] {-1, 5, 30, MIN, MAX}) BUSY.leaves("29 UNKNOWN", x -> x.stamp(l), UNKNOWN, KEPT);
        BARE.leaves("29 UNKNOWN, no net", x -> x.stamp(0), UNKNOWN, KEPT);
        THIRTY.leaves("29 UNKNOWN behind the last", x -> x.stamp(30), UNKNOWN, KEPT);
    }

    private static void p30() {
        for (int l : new int[] {-1, 5, 30, MIN, MAX}) {
            BUSY.leaves("30 UNKNOWN", x -> x.as(l, 0), UNKNOWN, 0);
            BUSY.leaves("30 UNKNOWN ahead of OUTSIDE", x -> x.as(l, 3), UNKNOWN, 0);
        }
        for (int kind : new int[] {-1, 3, MIN, MAX}) {
            for (int l = 0; l <= 2; l++) {
                int told = l;
                BUSY.leaves("30 OUTSIDE", x -> x.as(told, kind), OUTSIDE, 0);
            }
        }
        // Loads 0, 1, 2 are of the kinds 0, 1, 2.
        for (int l = 0; l <= 2; l++) {
            for (int kind = 0; kind <= 2; kind++) {
                int load = l, told = kind;
                BUSY.leaves("30 a " + l + " as a " + kind, x -> x.as(load, told), kind <= l ? 1 : CAST, kind <= l ? 0 : 2);
            }
        }
        BARE.leaves("30 UNKNOWN, no net", x -> x.as(0, 0), UNKNOWN, 0);
    }

    private static void p33() {
        for (int what : new int[] {-1, 6, MIN, MAX}) {
            BUSY.leaves("33 OUTSIDE", x -> x.many(what), OUTSIDE, KEPT);
            BARE.leaves("33 OUTSIDE, no net", x -> x.many(what), OUTSIDE, KEPT);
        }
    }
}
