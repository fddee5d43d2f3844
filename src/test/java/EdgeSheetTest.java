/** The edges of sheets, faults, telling and the trace: part 7 and the promises 23 to 32. */
public final class EdgeSheetTest {
    private static final int MIN = Integer.MIN_VALUE, MAX = Integer.MAX_VALUE;
    private static final long LOST = Long.MIN_VALUE;

    private static final Due DUE = new Due("EdgeSheetTest");

    public static void main(String[] args) {
        nothingAtFirst();
        sheetsZeroToThree();
        rowsZeroToSixty();
        zerosAtFirst();
        anewIsZero();
        sorts();
        bytesAreCut();
        shortsAreCut();
        intsStay();
        sheetsAreApart();
        loseThenNothing();
        copyAll();
        copyAsTheyWere();
        copyOfNone();
        copyNeedsNoCut();
        faultAheadOfAny();
        faultOfTheLatest();
        faultIsLeft();
        faultNumbers();
        tellings();
        stamps();
        kinds();
        traceAtFirst();
        traceWraps();
        traceLeft();
        DUE.end();
    }

    private static void is(String sentence, long got, long want) { DUE.is(sentence, got, want); }

    private static void nothingAtFirst() {
        for (int k = 0; k < 4; k++) {
            LaneWaits x = new LaneWaits();
            is("7 nothing at first: put", x.put(k, 0, 0), -11);
            is("7 nothing at first: cell", x.cell(k, 0, 0), LOST);
            is("7 nothing at first: copy", x.copy(k, 0, k, 0, 0), -11);
            is("7 nothing at first: net", x.net(k, 0, 0, 0), -11);
            is("7 nothing at first: lose", x.lose(k), 0);
        }
    }

    private static void sheetsZeroToThree() {
        LaneWaits x = new LaneWaits();
        for (int k = -1; k <= 4; k++) is("7 SHEETS 0 .. 3: " + k, x.sheet(k, 0, 1), k >= 0 && k <= 3 ? 1 : -1);
        for (int k = -1; k <= 4; k++) is("7 SHEETS 0 .. 3, put: " + k, x.put(k, 0, 1), k >= 0 && k <= 3 ? 1 : -1);
        for (int k = -1; k <= 4; k++) is("7 SHEETS 0 .. 3, cell: " + k, x.cell(k, 0, 0), k >= 0 && k <= 3 ? 1 : LOST);
        for (int k = -1; k <= 4; k++) is("7 SHEETS 0 .. 3, lose: " + k, x.lose(k), k >= 0 && k <= 3 ? 1 : -1);
    }

    private static void rowsZeroToSixty() {
        for (int sort = 0; sort <= 2; sort++) {
            for (int n : new int[] {0, 1, 59, 60}) {
                LaneWaits x = new LaneWaits();
                is("23 a row of " + n, x.sheet(2, sort, n), 1);
                is("23 no fault", x.fault(), 0);
                for (int i = -1; i <= n; i++) {
                    boolean there = i >= 0 && i < n;
                    is("25 cell " + i + " of " + n, x.put(2, i, 7 + i), there ? 1 : -13);
                    is("26 cell " + i + " of " + n, x.cell(2, i, sort), there ? 7 + i : LOST);
                    is("26 fault", x.fault(), there ? 0 : 3);
                }
                is("24 it has a row, an empty one, too", x.lose(2), 1);
            }
            LaneWaits x = new LaneWaits();
            is("23 61 is too long", x.sheet(2, sort, 61), -2);
            is("23 so there is nothing", x.lose(2), 0);
            is("23 -1 is too short", x.sheet(2, sort, -1), -14);
            is("23 so there is still nothing", x.lose(2), 0);
        }
    }

    private static void zerosAtFirst() {
        for (int sort = 0; sort <= 2; sort++) {
            LaneWaits x = new LaneWaits();
            x.sheet(0, sort, 60);
            for (int i = 0; i < 60; i++) is("7 0 at first", x.cell(0, i, sort), 0);
        }
    }

    private static void anewIsZero() {
        LaneWaits x = new LaneWaits();
        x.sheet(0, 2, 60);
        for (int i = 0; i < 60; i++) x.put(0, i, -1);
        is("23 a new row", x.sheet(0, 2, 1), 1);
        is("23 it is 0", x.cell(0, 0, 2), 0);
        is("23 it is shorter", x.put(0, 1, 1), -13);
        is("23 a longer one", x.sheet(0, 2, 60), 1);
        for (int i = 0; i < 60; i++) is("23 all of it is 0", x.cell(0, i, 2), 0);
        x.put(0, 3, 9);
        x.lose(0);
        x.sheet(0, 2, 60);
        is("24 what was lost does not come back", x.cell(0, 3, 2), 0);
    }

    private static void sorts() {
        for (int sort = -1; sort <= 3; sort++) {
            LaneWaits x = new LaneWaits();
            boolean good = sort >= 0 && sort <= 2;
            is("7 a SORT: " + sort, x.sheet(1, sort, 1), good ? 1 : -2);
            if (!good) continue;
            for (int as = -1; as <= 3; as++) {
                is("26 taken as a row of a SORT", x.cell(1, 0, as), as == sort ? 0 : LOST);
                is("26 CAST of another", x.fault(), as == sort || as < 0 || as > 2 ? 0 : 2);
            }
            x.sheet(1, (sort + 1) % 3, 1);
            is("23 its SORT is the new one", x.cell(1, 0, (sort + 1) % 3), 0);
            is("23 no more the old one", x.cell(1, 0, sort), LOST);
            x.lose(1);
            x.cell(1, 0, sort);
            is("24 nothing has no SORT", x.fault(), 1);
        }
    }

    private static void cut(int sort, int v, int want) {
        LaneWaits x = new LaneWaits();
        x.sheet(0, sort, 2);
        is("25 " + v + " comes to it", x.put(0, 1, v), 1);
        is("7 " + v + " is cut to SORT " + sort, x.cell(0, 1, sort), want);
        is("7 the cell beside it", x.cell(0, 0, sort), 0);
    }

    private static void bytesAreCut() {
        int[][] rows = {{127, 127}, {128, -128}, {-128, -128}, {-129, 127}, {255, -1}, {256, 0}, {-256, 0}, {0, 0}, {-1, -1},
            {32768, 0}, {65535, -1}, {MAX, -1}, {MIN, 0}, {MIN + 1, 1}};
        for (int[] r : rows) cut(0, r[0], r[1]);
    }

    private static void shortsAreCut() {
        int[][] rows = {{128, 128}, {32767, 32767}, {32768, -32768}, {-32768, -32768}, {-32769, 32767}, {65535, -1}, {65536, 0},
            {-65536, 0}, {0, 0}, {-1, -1}, {MAX, -1}, {MIN, 0}, {MIN + 1, 1}};
        for (int[] r : rows) cut(1, r[0], r[1]);
    }

    private static void intsStay() {
        for (int v : new int[] {MAX, MIN, 0, -1, 128, 32768, 65536}) cut(2, v, v);
    }

    private static void sheetsAreApart() {
        LaneWaits x = new LaneWaits();
        for (int k = 0; k < 4; k++) x.sheet(k, 2, 60);
        for (int k = 0; k < 4; k++) x.put(k, 59, 10 + k);
        for (int k = 0; k < 4; k++) is("25 each has its own", x.cell(k, 59, 2), 10 + k);
        x.lose(1);
        is("24 just that one", x.cell(2, 59, 2), 12);
        is("24 and no other", x.cell(0, 59, 2), 10);
    }

    private static void loseThenNothing() {
        LaneWaits x = new LaneWaits();
        is("24 it had nothing", x.lose(0), 0);
        x.sheet(0, 1, 0);
        is("24 it had an empty row", x.lose(0), 1);
        is("24 now it has nothing", x.lose(0), 0);
        is("24 NULL, not INDEX", x.put(0, 0, 0), -11);
    }

    private static void copyAll() {
        LaneWaits x = new LaneWaits();
        x.sheet(0, 1, 60);
        x.sheet(3, 1, 60);
        for (int i = 0; i < 60; i++) x.put(0, i, 1000 + i);
        is("27 all 60", x.copy(0, 0, 3, 0, 60), 60);
        for (int i = 0; i < 60; i++) is("27 there", x.cell(3, i, 1), 1000 + i);
        is("27 the last one to the first", x.copy(0, 59, 3, 0, 1), 1);
        is("27 came", x.cell(3, 0, 1), 1059);
        is("27 the first one to the last", x.copy(0, 0, 3, 59, 1), 1);
        is("27 came", x.cell(3, 59, 1), 1000);
        is("27 they stay where they were", x.cell(0, 59, 1), 1059);
        is("27 one too many", x.copy(0, 0, 3, 0, 61), -13);
    }

    private static void copyAsTheyWere() {
        for (int by = 1; by <= 4; by++) {
            LaneWaits x = new LaneWaits();
            x.sheet(0, 2, 5);
            for (int i = 0; i < 5; i++) x.put(0, i, i);
            x.copy(0, 0, 0, by, 5 - by);
            for (int i = 0; i < 5; i++) is("27 as they were, up by " + by, x.cell(0, i, 2), i < by ? i : i - by);
            for (int i = 0; i < 5; i++) x.put(0, i, i);
            x.copy(0, by, 0, 0, 5 - by);
            for (int i = 0; i < 5; i++) is("27 as they were, down by " + by, x.cell(0, i, 2), i < 5 - by ? i + by : i);
        }
    }

    private static void copyOfNone() {
        LaneWaits x = new LaneWaits();
        x.sheet(0, 0, 2);
        x.sheet(1, 0, 0);
        for (int i = -1; i <= 3; i++) {
            boolean good = i >= 0 && i <= 2;
            is("27 none, from " + i + " on", x.copy(0, i, 1, 0, 0), good ? 0 : -13);
            is("27 none, to " + i + " on", x.copy(1, 0, 0, i, 0), good ? 0 : -13);
            is("27 fault", x.fault(), good ? 0 : 3);
        }
        is("27 none, of what has nothing", x.copy(2, 0, 0, 0, 0), -11);
        x.sheet(2, 1, 0);
        is("27 none, of another SORT", x.copy(2, 0, 0, 0, 0), -12);
    }

    private static void copyNeedsNoCut() {
        LaneWaits x = new LaneWaits();
        x.sheet(0, 2, 1);
        x.sheet(1, 2, 1);
        x.put(0, 0, MIN);
        x.copy(0, 0, 1, 0, 1);
        is("27 the least int", x.cell(1, 0, 2), MIN);
    }

    private static void faultAheadOfAny() {
        LaneWaits x = new LaneWaits();
        is("32 0 ahead of any", x.fault(), 0);
        x.lose(0);
        x.rule(9);
        x.tell(0);
        is("32 others tell none", x.fault(), 0);
    }

    private static void faultOfTheLatest() {
        LaneWaits x = new LaneWaits();
        x.put(0, 0, 0);
        is("32 NULL", x.fault(), 1);
        x.sheet(0, 0, -1);
        is("32 the latest one's: SIZE", x.fault(), 4);
        x.sheet(0, 0, 1);
        is("32 it came to none", x.fault(), 0);
        x.put(0, 1, 0);
        is("32 INDEX", x.fault(), 3);
        x.cell(0, 1, 1);
        is("32 CAST", x.fault(), 2);
        x.cell(0, 0, 3);
        is("32 it was refused", x.fault(), 0);
    }

    /** Calls that name no FAULTS, taken or refused, ahead of which there was one. */
    private static void faultIsLeft() {
        Twins.Call[] calls = {
            x -> x.ofLane(0, 0), x -> x.ofLane(9, 0), x -> x.far(0, 1), x -> x.far(9, 0), x -> x.rule(1), x -> x.rule(9),
            x -> x.bar(0, 1, 1), x -> x.bar(9, 0, 1), x -> x.may(0, 1), x -> x.may(9, 0), x -> x.out(0, 1), x -> x.out(9, 0),
            x -> x.comes(0, 1), x -> x.comes(0, 0), x -> x.carries(0), x -> x.carries(9), x -> x.waits(0), x -> x.waits(9),
            x -> x.ring(0), x -> x.ring(99), x -> x.rank(0), x -> x.rank(9), x -> x.still(0), x -> x.still(9),
            x -> x.states(0), x -> x.states(9), x -> x.send(0, 1, 2), x -> x.send(9, 0, 1), x -> x.ticks(1), x -> x.ticks(99),
            x -> x.ofLoad(0, 0), x -> x.ofLoad(9, 0), x -> x.frozen(), x -> x.mend(0), x -> x.mend(9), x -> x.bears(0, 0),
            x -> x.bears(9, 0), x -> x.busiest(), x -> x.lose(3), x -> x.lose(9), x -> x.lose(0), x -> x.tell(0), x -> x.tell(9),
            x -> x.stamp(0), x -> x.stamp(9), x -> x.trace(), x -> x.fault(), x -> x.many(0), x -> x.many(9)};
        for (int k = 0; k < calls.length; k++) {
            LaneWaits x = Due.of("n3;0>1;1>2;2>0");
            x.send(0, 0, 1);
            x.as(0, 2);
            calls[k].on(x);
            is("32 the latest call that names one, not this: " + k, x.fault(), 2);
        }
        Twins.Call[] naming = {
            x -> x.net(0, 0, 0, 14), x -> x.net(9, 0, 0, 0), x -> x.net(0, 0, 0, 3), x -> x.sheet(1, 0, 0), x -> x.sheet(9, 0, 0),
            x -> x.put(0, 0, 0), x -> x.put(9, 0, 0), x -> x.cell(0, 0, 0), x -> x.cell(9, 0, 0), x -> x.copy(0, 0, 0, 0, 0),
            x -> x.copy(9, 0, 0, 0, 0), x -> x.as(0, 0), x -> x.as(9, 0), x -> x.as(0, 9)};
        for (int k = 0; k < naming.length; k++) {
            LaneWaits x = Due.of("n3;0>1;1>2;2>0");
            x.send(0, 0, 1);
            x.as(0, 2);
            naming[k].on(x);
            is("32 it came to none, or was refused: " + k, x.fault(), 0);
        }
    }

    private static void faultNumbers() {
        LaneWaits x = new LaneWaits();
        is("FAULTS: -10 less 1", x.put(0, 0, 0), -11);
        x.sheet(0, 0, 0);
        is("FAULTS: -10 less 2", x.net(0, 1, 0, 0), -12);
        is("FAULTS: -10 less 3", x.put(0, 0, 0), -13);
        is("FAULTS: -10 less 4", x.sheet(0, 0, -1), -14);
        is("FAULTS: LOST, where a long is answered", x.cell(0, 0, 0), Long.MIN_VALUE);
    }

    /** From 5 to 4 and back, the greatest nodes, by all kinds. */
    private static LaneWaits three() {
        LaneWaits x = Due.of("n6;5>4*2;4>5*2;0>1*2");
        x.send(0, 5, 4);
        x.send(1, 4, 5);
        x.send(2, 0, 1);
        return x;
    }

    private static void tellings() {
        LaneWaits x = three();
        is("7 PLAIN: 10 times its first NODE and the one that it is for", x.tell(0), 54);
        is("7 PLAIN leaves 1", x.trace(), 1);
        LaneWaits y = three();
        is("7 HASTY: what PLAIN's gives, and 100", y.tell(1), 145);
        is("7 HASTY leaves 2, then 1", y.trace(), 2 * 31 + 1);
        LaneWaits z = three();
        is("7 SEALED: HASTY's and PLAIN's", z.tell(2), 101 + 1);
        is("7 SEALED leaves 3, 2, 1, 1", z.trace(), ((3 * 31 + 2) * 31 + 1) * 31 + 1);
        LaneWaits w = three();
        w.ticks(3);
        is("28 one that is HOME: by its first NODE", w.tell(0), 54);
    }

    private static void stamps() {
        LaneWaits x = three();
        is("7 STAMPED: its number", x.stamp(1), 1);
        is("7 the lent body leaves 4", x.trace(), 4);
        is("7 number 0", x.stamp(0), 0);
        LaneWaits y = three();
        is("7 SEALED ones have their own", y.stamp(2), 90);
        is("7 it leaves 5", y.trace(), 5);
        LaneWaits z = Due.of("n2;0>1");
        for (int l = 0; l < 30; l++) {
            z.send(l == 28 ? 2 : l % 2, 0, 1);
            z.ticks(1);
        }
        is("29 the last number", z.stamp(29), 29);
        is("29 a SEALED one, whatever its number", z.stamp(28), 90);
    }

    private static void kinds() {
        LaneWaits x = three();
        for (int l = 0; l <= 2; l++) {
            is("30 each is a PLAIN, too", x.as(l, 0), 1);
            is("30 a HASTY", x.as(l, 1), l >= 1 ? 1 : -12);
            is("30 CAST", x.fault(), l >= 1 ? 0 : 2);
            is("30 a SEALED", x.as(l, 2), l == 2 ? 1 : -12);
            is("30 CAST", x.fault(), l == 2 ? 0 : 2);
        }
        x.ticks(2);
        is("30 one that is HOME", x.as(2, 2), 1);
        is("30 its kind stays", x.ofLoad(2, 0), 2);
    }

    private static void traceAtFirst() {
        LaneWaits x = new LaneWaits();
        is("31 0 at first", x.trace(), 0);
        x.tell(0);
        x.stamp(0);
        is("31 refused ones leave nothing", x.trace(), 0);
    }

    private static void traceWraps() {
        LaneWaits x = three();
        // 4 times 1, 32, 993, ..: the seventh is 3668348548, that is 4294967296 and -626618748.
        int[] want = {4, 128, 3972, 123136, 3817220, 118333824, -626618748};
        for (int k = 0; k < 7; k++) {
            x.stamp(0);
            is("7 TRACE wraps: " + k, x.trace(), want[k]);
        }
        x.stamp(0);
        is("7 it goes on behind it", x.trace(), 31 * -626618748 + 4);
    }

    private static void traceLeft() {
        LaneWaits x = three();
        x.stamp(2);
        x.as(2, 0);
        x.ticks(4);
        x.send(0, 5, 4);
        x.trace();
        x.ofLoad(0, 0);
        is("31 no other call leaves a number", x.trace(), 5);
        Due.take(x, "n2;0>1");
        x.send(0, 0, 1);
        x.stamp(0);
        is("31 it goes on with a new NET", x.trace(), 5 * 31 + 4);
    }
}
