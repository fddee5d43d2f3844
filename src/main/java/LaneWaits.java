import java.util.Arrays;

/**
 * Loads that wait for one another in a net of lanes. What each call answers is told by the
 * document's promises; sets of nodes, lanes and loads are held as bits throughout.
 */
public final class LaneWaits {
    public static final int UNKNOWN = -1, OUTSIDE = -2, STATE = -3, FULL = -4, NONE = -9;
    public static final long LOST = Long.MIN_VALUE;

    private static final int NULL = 1, CAST = 2, INDEX = 3, SIZE = 4;
    private static final int MAX_NODES = 6, MAX_LANES = 10, MAX_CELLS = 2;
    private static final int FIRST = 1, ANY = 2;
    private static final int HASTY = 1, SEALED = 2;
    private static final int MAX_LOADS = 30, MAX_TICKS = 50;

    private final Sheets sheets;
    private final Text text;
    private final Net net;
    private final Ways ways;
    private final Waits waiting;
    private final Stills stills;
    private final States all;
    private final Traffic traffic;
    private final Mends mends;
    private final Bears shares;
    private int trace;
    private int fault;

    public LaneWaits() {
        sheets = new Sheets();
        text = new Text();
        net = new Net();
        ways = new Ways(net);
        waiting = new Waits(net, ways);
        stills = new Stills(net, ways, waiting);
        all = new States(net, ways);
        traffic = new Traffic(net, ways);
        mends = new Mends(net, ways, waiting);
        shares = new Bears(net, ways, waiting);
    }

    // ---- 1 the net

    public int net(int sheet, int sort, int i, int n) {
        fault = 0;
        if (!sheets.isSheet(sheet)) return UNKNOWN;
        if (!sheets.isSort(sort)) return OUTSIDE;
        if (sheets.isOfAnother(sheet, sort)) return fail(CAST);
        if (!sheets.hasRow(sheet)) return fail(NULL);
        if (n < 0) return fail(SIZE);
        if (!sheets.hasCells(sheet, i, n)) return fail(INDEX);
        int place = text.firstFault(sheets.rows[sheet], i, n);
        if (place != NONE) return -100 - place;
        net.build(text);
        ways.unbarAll();
        traffic.clear();
        return net.lanes;
    }

    public int ofLane(int c, int what) {
        if (!net.isLane(c)) return UNKNOWN;
        switch (what) {
            case 0: return net.from[c];
            case 1: return net.to[c];
            case 2: return net.cells[c];
            case 3: return traffic.standing[c];
            default: return traffic.standsIn(c, what - 10);
        }
    }

    public int far(int x, int y) {
        if (!net.areNodes(x, y)) return UNKNOWN;
        return net.far[x][y];
    }

    // ---- 2 rules, turns

    public int rule(int v) {
        if (v < 0 || v > ANY) return OUTSIDE;
        int was = ways.rule;
        ways.ruleBy(v);
        return was;
    }

    public int bar(int c, int d, int v) {
        if (!net.isLane(c) || !net.isLane(d)) return UNKNOWN;
        if (v < 0 || v > 1) return OUTSIDE;
        if (net.from[d] != net.to[c]) return STATE;
        int was = ways.isBarred(c, d) ? 1 : 0;
        ways.setBarred(c, d, v == 1);
        return was;
    }

    public int may(int c, int y) {
        if (!net.isLane(c) || !net.isNode(y)) return UNKNOWN;
        return ways.onward[c][y];
    }

    public int out(int x, int y) {
        if (!net.areNodes(x, y)) return UNKNOWN;
        return ways.outward[x][y];
    }

    public int comes(int x, int y) {
        if (!net.areNodes(x, y)) return UNKNOWN;
        if (x == y) return OUTSIDE;
        return waiting.howItComes(x, y);
    }

    // ---- 3 waits

    public int carries(int c) {
        if (!net.isLane(c)) return UNKNOWN;
        waiting.work();
        int set = 0;
        for (int y = 0; y < net.nodes; y++) {
            if (has(waiting.carried[y], c)) set |= 1 << y;
        }
        return set;
    }

    public int waits(int c) {
        if (!net.isLane(c)) return UNKNOWN;
        waiting.work();
        return waiting.next[c];
    }

    public int ring(int k) {
        if (k < -1 || k >= MAX_LANES) return UNKNOWN;
        if (net.lanes == 0) return STATE;
        waiting.work();
        if (k == -1) return waiting.ringLength;
        return k < waiting.ringLength ? waiting.ringRow[k] : NONE;
    }

    public int rank(int c) {
        if (!net.isLane(c)) return UNKNOWN;
        waiting.work();
        if (waiting.ringLength > 0) return STATE;
        return waiting.ranks[c];
    }

    public int still(int what) {
        if (what < 0 || what > 1) return OUTSIDE;
        if (net.lanes == 0) return STATE;
        stills.work();
        return what == 0 ? stills.allOfThem : stills.least;
    }

    // ---- 4 states

    public int states(int what) {
        if (what < 0 || what > 2) return OUTSIDE;
        if (!all.fit()) return STATE;
        all.work();
        if (what == 0) return all.count;
        return what == 1 ? all.dead : all.steps;
    }

    // ---- 5 loads

    public int send(int kind, int x, int y) {
        if (!net.areNodes(x, y)) return UNKNOWN;
        if (!isKind(kind) || x == y) return OUTSIDE;
        int lane = traffic.choose(kind, ways.outward[x][y]);
        if (lane == NONE) return STATE;
        if (traffic.count >= MAX_LOADS) return FULL;
        return traffic.setOut(kind, x, y, lane);
    }

    public int ticks(int n) {
        if (n < 0 || n > MAX_TICKS) return OUTSIDE;
        if (net.lanes == 0) return STATE;
        int moves = 0;
        for (int t = 0; t < n; t++) moves += traffic.tickOnce();
        return moves;
    }

    public int ofLoad(int l, int what) {
        Load load = traffic.numbered(l);
        if (load == null) return UNKNOWN;
        switch (what) {
            case 0: return load.kind;
            case 1: return load.first;
            case 2: return load.aim;
            case 3: return load.lane;
            case 4: return load.lanesTaken;
            case 5: return load.homeTick;
            default: return OUTSIDE;
        }
    }

    public int frozen() {
        return traffic.frozenSet();
    }

    // ---- 6 mends, bears

    public int mend(int k) {
        if (k < -1 || k > 1) return UNKNOWN;
        if (net.lanes == 0) return STATE;
        mends.work();
        if (k == -1) return mends.count;
        return k < mends.count ? mends.turns[k] : NONE;
    }

    public long bears(int c, int which) {
        if (!net.isLane(c)) return LOST;
        if (which < 0 || which > 1) return LOST;
        waiting.work();
        if (!waiting.sure) return LOST;
        shares.work();
        return which == 0 ? shares.upper[c] : shares.lower[c];
    }

    public int busiest() {
        if (net.lanes == 0) return STATE;
        waiting.work();
        if (!waiting.sure) return STATE;
        shares.work();
        return shares.greatest();
    }

    // ---- 7 sheets, parts

    public int sheet(int k, int sort, int n) {
        fault = 0;
        if (!sheets.isSheet(k)) return UNKNOWN;
        if (!sheets.isSort(sort) || n > Sheets.MAX_ROW) return OUTSIDE;
        if (n < 0) return fail(SIZE);
        sheets.renew(k, sort, n);
        return 1;
    }

    public int lose(int k) {
        if (!sheets.isSheet(k)) return UNKNOWN;
        return sheets.drop(k) ? 1 : 0;
    }

    public int put(int k, int i, int v) {
        fault = 0;
        if (!sheets.isSheet(k)) return UNKNOWN;
        if (!sheets.hasRow(k)) return fail(NULL);
        if (!sheets.hasCell(k, i)) return fail(INDEX);
        sheets.rows[k][i] = sheets.cut(k, v);
        return 1;
    }

    public long cell(int k, int i, int sort) {
        fault = 0;
        if (!sheets.isSheet(k)) return LOST;
        if (!sheets.isSort(sort)) return LOST;
        if (sheets.isOfAnother(k, sort)) return lost(CAST);
        if (!sheets.hasRow(k)) return lost(NULL);
        if (!sheets.hasCell(k, i)) return lost(INDEX);
        return sheets.rows[k][i];
    }

    public int copy(int k, int i, int other, int j, int n) {
        fault = 0;
        if (!sheets.isSheet(k) || !sheets.isSheet(other)) return UNKNOWN;
        if (!sheets.hasRow(k) || !sheets.hasRow(other)) return fail(NULL);
        if (sheets.sorts[k] != sheets.sorts[other]) return fail(CAST);
        if (!sheets.hasCells(k, i, n) || !sheets.hasCells(other, j, n)) return fail(INDEX);
        System.arraycopy(sheets.rows[k], i, sheets.rows[other], j, n);
        return n;
    }

    public int tell(int l) {
        Load load = traffic.numbered(l);
        if (load == null) return UNKNOWN;
        if (load.kind == SEALED) return sealedTelling(load);
        return load.kind == HASTY ? hastyTelling(load) : plainTelling(load);
    }

    public int stamp(int l) {
        Load load = traffic.numbered(l);
        if (load == null) return UNKNOWN;
        return load.kind == SEALED ? ownStamp() : lentStamp(load);
    }

    public int as(int l, int kind) {
        fault = 0;
        Load load = traffic.numbered(l);
        if (load == null) return UNKNOWN;
        if (!isKind(kind)) return OUTSIDE;
        // Each kind is also all the kinds of lesser numbers.
        return load.kind < kind ? fail(CAST) : 1;
    }

    public int trace() {
        return trace;
    }

    public int fault() {
        return fault;
    }

    public int many(int what) {
        switch (what) {
            case 0: return net.nodes;
            case 1: return net.lanes;
            case 2: return traffic.count;
            case 3: return traffic.countInLanes();
            case 4: return ways.countBarred();
            case 5: return traffic.tick;
            default: return OUTSIDE;
        }
    }

    private int fail(int number) {
        fault = number;
        return -10 - number;
    }

    private long lost(int number) {
        fault = number;
        return LOST;
    }

    private void leave(int number) {
        trace = 31 * trace + number;
    }

    private int plainTelling(Load load) {
        leave(1);
        return 10 * load.first + load.aim;
    }

    private int hastyTelling(Load load) {
        leave(2);
        return plainTelling(load) + 100;
    }

    private int sealedTelling(Load load) {
        leave(3);
        int hasty = hastyTelling(load);
        return hasty + plainTelling(load);
    }

    private int lentStamp(Load load) {
        leave(4);
        return load.number;
    }

    private int ownStamp() {
        leave(5);
        return 90;
    }

    private static boolean isKind(int kind) {
        return kind >= 0 && kind <= SEALED;
    }

    private static boolean has(int set, int number) {
        return (set >> number & 1) == 1;
    }

    /**
     * What is left of a set of lanes when those that go on to none of the rest are taken off,
     * again and again: nothing, if and only if no way among them comes back to itself.
     */
    private static int knot(int[] next, int lanes, int set) {
        int left = set;
        for (int round = 0; round < lanes && left != 0; round++) {
            int before = left;
            for (int c = 0; c < lanes; c++) {
                if ((left & 1 << c) != 0 && (next[c] & left) == 0) left &= ~(1 << c);
            }
            if (left == before) return left;
        }
        return left;
    }

    /** The sheets' rows are made once; a sheet that has nothing is told by its size. */
    private static final class Sheets {
        private static final int SHEETS = 4, MAX_ROW = 60, MAX_SORT = 2, NOTHING = -1;

        final int[][] rows = new int[SHEETS][MAX_ROW];
        final int[] sorts = new int[SHEETS];
        final int[] sizes = {NOTHING, NOTHING, NOTHING, NOTHING};

        boolean isSheet(int k) {
            return k >= 0 && k < SHEETS;
        }

        boolean isSort(int sort) {
            return sort >= 0 && sort <= MAX_SORT;
        }

        boolean hasRow(int k) {
            return sizes[k] != NOTHING;
        }

        boolean isOfAnother(int k, int sort) {
            return hasRow(k) && sorts[k] != sort;
        }

        boolean hasCell(int k, int i) {
            return i >= 0 && i < sizes[k];
        }

        /** The size less i, not i and n, is looked at: their sum may wrap. */
        boolean hasCells(int k, int i, int n) {
            return n >= 0 && i >= 0 && i <= sizes[k] && n <= sizes[k] - i;
        }

        void renew(int k, int sort, int n) {
            Arrays.fill(rows[k], 0);
            sorts[k] = sort;
            sizes[k] = n;
        }

        boolean drop(int k) {
            boolean had = hasRow(k);
            sizes[k] = NOTHING;
            return had;
        }

        int cut(int k, int v) {
            if (sorts[k] == 0) return (byte) v;
            return sorts[k] == 1 ? (short) v : v;
        }
    }

    /** Reads a text code by code; what it has read counts only if the whole text is good. */
    private static final class Text {
        private static final int AT_N = 0, AT_NODES = 1, AT_LANE = 2, AT_FROM = 3, AT_ARROW = 4;
        private static final int AT_TO = 5, AFTER_TO = 6, AT_CELLS = 7, AFTER_CELLS = 8;

        final int[] from = new int[MAX_LANES];
        final int[] to = new int[MAX_LANES];
        final int[] cells = new int[MAX_LANES];
        int nodes;
        int lanes;
        private int step;

        /** NONE, if there is no fault; the caller has looked whether the codes are there. */
        int firstFault(int[] codes, int i, int n) {
            step = AT_N;
            nodes = 0;
            lanes = 0;
            for (int place = 0; place < n; place++) {
                if (!takes(codes[i + place])) return place;
            }
            return step == AFTER_TO || step == AFTER_CELLS ? NONE : n;
        }

        private boolean takes(int code) {
            switch (step) {
                case AT_N: return goesOn(code == 'n', AT_NODES);
                case AT_NODES: return takesNodes(code - '0');
                case AT_FROM: return takesFrom(code - '0');
                case AT_ARROW: return goesOn(code == '>', AT_TO);
                case AT_TO: return takesTo(code - '0');
                case AFTER_TO:
                    return code == '*' ? goesOn(true, AT_CELLS) : opensLane(code);
                case AT_CELLS: return takesCells(code - '0');
                default: return opensLane(code);
            }
        }

        private boolean goesOn(boolean good, int then) {
            if (good) step = then;
            return good;
        }

        private boolean opensLane(int code) {
            return goesOn(code == ';' && lanes < MAX_LANES, AT_FROM);
        }

        private boolean takesNodes(int digit) {
            nodes = digit;
            return goesOn(digit >= 2 && digit <= MAX_NODES, AT_LANE);
        }

        private boolean takesFrom(int digit) {
            from[lanes] = digit;
            return goesOn(digit >= 0 && digit < nodes, AT_ARROW);
        }

        private boolean takesTo(int digit) {
            if (digit < 0 || digit >= nodes || digit == from[lanes]) return false;
            to[lanes] = digit;
            cells[lanes] = 1;
            lanes++;
            return goesOn(true, AFTER_TO);
        }

        private boolean takesCells(int digit) {
            if (digit < 1 || digit > MAX_CELLS) return false;
            cells[lanes - 1] = digit;
            return goesOn(true, AFTER_CELLS);
        }
    }

    /** The lanes and what follows from them alone, whatever the rule and the barred turns are. */
    private static final class Net {
        int nodes;
        int lanes;
        final int[] from = new int[MAX_LANES];
        final int[] to = new int[MAX_LANES];
        final int[] cells = new int[MAX_LANES];
        final int[][] far = new int[MAX_NODES][MAX_NODES];
        final int[][] nearer = new int[MAX_NODES][MAX_NODES];
        final int[][] leading = new int[MAX_NODES][MAX_NODES];
        final int[] into = new int[MAX_NODES];

        boolean isNode(int x) {
            return x >= 0 && x < nodes;
        }

        boolean areNodes(int x, int y) {
            return isNode(x) && isNode(y);
        }

        boolean isLane(int c) {
            return c >= 0 && c < lanes;
        }

        void build(Text text) {
            nodes = text.nodes;
            lanes = text.lanes;
            System.arraycopy(text.from, 0, from, 0, lanes);
            System.arraycopy(text.to, 0, to, 0, lanes);
            System.arraycopy(text.cells, 0, cells, 0, lanes);
            for (int y = 0; y < nodes; y++) {
                measure(y);
                collect(y);
            }
        }

        private void measure(int y) {
            for (int x = 0; x < nodes; x++) far[x][y] = x == y ? 0 : NONE;
            for (int k = 1; k < nodes; k++) {
                for (int d = 0; d < lanes; d++) {
                    if (far[to[d]][y] == k - 1 && far[from[d]][y] == NONE) far[from[d]][y] = k;
                }
            }
        }

        private void collect(int y) {
            into[y] = 0;
            for (int x = 0; x < nodes; x++) {
                nearer[x][y] = 0;
                leading[x][y] = 0;
            }
            for (int d = 0; d < lanes; d++) {
                int x = from[d];
                if (to[d] == y) into[y] |= 1 << d;
                if (x == y || far[to[d]][y] == NONE) continue;
                leading[x][y] |= 1 << d;
                if (far[to[d]][y] == far[x][y] - 1) nearer[x][y] |= 1 << d;
            }
        }
    }

    /**
     * What a load may take, from each node on and from each lane on. It is laid out at each
     * change, and changes are counted, so that others can keep what they have found till then.
     */
    private static final class Ways {
        private final Net net;
        private final int[] barred = new int[MAX_LANES];
        final int[][] outward = new int[MAX_NODES][MAX_NODES];
        final int[][] onward = new int[MAX_LANES][MAX_NODES];
        int rule;
        int changes;

        Ways(Net net) {
            this.net = net;
        }

        void ruleBy(int v) {
            rule = v;
            layAll();
        }

        void unbarAll() {
            Arrays.fill(barred, 0);
            layAll();
        }

        void takeFrom(Ways other) {
            System.arraycopy(other.barred, 0, barred, 0, MAX_LANES);
            ruleBy(other.rule);
        }

        boolean isBarred(int c, int d) {
            return has(barred[c], d);
        }

        void setBarred(int c, int d, boolean yes) {
            if (yes) barred[c] |= 1 << d;
            else barred[c] &= ~(1 << d);
            layLane(c);
            changes++;
        }

        int countBarred() {
            int sum = 0;
            for (int c = 0; c < net.lanes; c++) sum += Integer.bitCount(barred[c]);
            return sum;
        }

        private void layAll() {
            for (int x = 0; x < net.nodes; x++) {
                for (int y = 0; y < net.nodes; y++) outward[x][y] = ruled(x, y, 0);
            }
            for (int c = 0; c < net.lanes; c++) layLane(c);
            changes++;
        }

        private void layLane(int c) {
            for (int y = 0; y < net.nodes; y++) onward[c][y] = ruled(net.to[c], y, barred[c]);
        }

        private int ruled(int x, int y, int without) {
            int set = (rule == ANY ? net.leading[x][y] : net.nearer[x][y]) & ~without;
            return rule == FIRST ? set & -set : set;
        }
    }

    /** Which lanes carry what and wait for which, the shortest ring and the ranks. */
    private static final class Waits {
        private final Net net;
        private final Ways ways;
        final int[] carried = new int[MAX_NODES];
        final int[] next = new int[MAX_LANES];
        final int[] ringRow = new int[MAX_LANES];
        final int[] ranks = new int[MAX_LANES];
        private final int[] onward = new int[MAX_LANES];
        private final int[] back = new int[MAX_LANES];
        boolean sure;
        int ringLength;
        private int workedAt = -1;

        Waits(Net net, Ways ways) {
            this.net = net;
            this.ways = ways;
        }

        void work() {
            if (workedAt == ways.changes) return;
            workedAt = ways.changes;
            Arrays.fill(next, 0);
            sure = true;
            for (int y = 0; y < net.nodes; y++) {
                if (!survey(y)) sure = false;
            }
            findRing();
            if (ringLength == 0) findRanks();
        }

        /** As work(), but it ends at the first thing amiss: mends ask this of many sets. */
        boolean isSound() {
            Arrays.fill(next, 0);
            for (int y = 0; y < net.nodes; y++) {
                if (!survey(y)) return false;
            }
            return knot(next, net.lanes, (1 << net.lanes) - 1) == 0;
        }

        /** Looks at all loads for y; answers whether they come there, whatever they take. */
        private boolean survey(int y) {
            int start = 0;
            boolean allSetOut = true;
            for (int x = 0; x < net.nodes; x++) {
                int set = ways.outward[x][y];
                if (x != y && set == 0) allSetOut = false;
                start |= set;
            }
            carried[y] = reach(start, y);
            for (int c = 0; c < net.lanes; c++) {
                if (has(carried[y], c)) next[c] |= onward[c];
            }
            return allSetOut && endsWell(carried[y], y);
        }

        int howItComes(int x, int y) {
            int set = reach(ways.outward[x][y], y);
            if ((set & net.into[y]) == 0) return 0;
            return endsWell(set, y) ? 2 : 1;
        }

        /** All lanes that a load for y comes into from those of a set; leaves onward for y. */
        private int reach(int start, int y) {
            for (int c = 0; c < net.lanes; c++) onward[c] = ways.onward[c][y];
            int set = start;
            for (int round = 0; round < net.lanes; round++) {
                int before = set;
                for (int c = 0; c < net.lanes; c++) {
                    if (has(set, c)) set |= onward[c];
                }
                if (set == before) return set;
            }
            return set;
        }

        /** Behind reach(): no dead end but y, and no way back. */
        private boolean endsWell(int set, int y) {
            for (int c = 0; c < net.lanes; c++) {
                if (has(set, c) && net.to[c] != y && onward[c] == 0) return false;
            }
            return knot(onward, net.lanes, set) == 0;
        }

        private void findRing() {
            ringLength = 0;
            if (knot(next, net.lanes, (1 << net.lanes) - 1) == 0) return;
            for (int least = 0; least < net.lanes; least++) {
                int length = measureRing(least);
                if (length > 0 && (ringLength == 0 || length < ringLength)) {
                    ringLength = length;
                    layRing(least);
                }
            }
        }

        /** How long the shortest ring is of which this lane is the least; 0: there is none. */
        private int measureRing(int least) {
            Arrays.fill(back, 0);
            int latest = 1 << least;
            int open = (1 << net.lanes) - (2 << least);
            for (int steps = 1; steps <= net.lanes && latest != 0; steps++) {
                if ((next[least] & latest) != 0) return steps;
                int found = 0;
                for (int c = least + 1; c < net.lanes; c++) {
                    if (has(open, c) && (next[c] & latest) != 0) {
                        found |= 1 << c;
                        back[c] = steps;
                    }
                }
                open &= ~found;
                latest = found;
            }
            return 0;
        }

        /** Behind measureRing(): back tells how many steps each lane is from the least one. */
        private void layRing(int least) {
            int lane = least;
            ringRow[0] = least;
            for (int k = 1; k < ringLength; k++) {
                for (int c = least + 1; c < net.lanes; c++) {
                    if (has(next[lane], c) && back[c] == ringLength - k) {
                        lane = c;
                        break;
                    }
                }
                ringRow[k] = lane;
            }
        }

        private void findRanks() {
            Arrays.fill(ranks, 0);
            for (int round = 0; round < net.lanes; round++) {
                for (int c = 0; c < net.lanes; c++) {
                    for (int d = 0; d < net.lanes; d++) {
                        if (has(next[c], d)) ranks[c] = Math.max(ranks[c], ranks[d] + 1);
                    }
                }
            }
        }
    }

    /** Sets of lanes that can stand still. */
    private static final class Stills {
        private final Net net;
        private final Ways ways;
        private final Waits waiting;
        private final int[][] needs = new int[MAX_LANES][MAX_NODES];
        private final int[] needCount = new int[MAX_LANES];
        int allOfThem;
        int least;
        private int workedAt = -1;

        Stills(Net net, Ways ways, Waits waiting) {
            this.net = net;
            this.ways = ways;
            this.waiting = waiting;
        }

        void work() {
            if (workedAt == ways.changes) return;
            workedAt = ways.changes;
            waiting.work();
            for (int c = 0; c < net.lanes; c++) findNeeds(c);
            findAll();
            findLeast();
        }

        private void findNeeds(int c) {
            needCount[c] = 0;
            for (int y = 0; y < net.nodes; y++) {
                if (has(waiting.carried[y], c) && net.to[c] != y) {
                    needs[c][needCount[c]] = ways.onward[c][y];
                    needCount[c]++;
                }
            }
        }

        private boolean canStand(int c, int set) {
            for (int k = 0; k < needCount[c]; k++) {
                if ((needs[c][k] & ~set) == 0) return true;
            }
            return false;
        }

        /** Such sets together are one, too: so what is left of all lanes is all of them. */
        private void findAll() {
            allOfThem = (1 << net.lanes) - 1;
            for (int round = 0; round < net.lanes; round++) {
                int before = allOfThem;
                for (int c = 0; c < net.lanes; c++) {
                    if (has(allOfThem, c) && !canStand(c, allOfThem)) allOfThem &= ~(1 << c);
                }
                if (allOfThem == before) return;
            }
        }

        private void findLeast() {
            least = allOfThem;
            int fewest = Integer.bitCount(allOfThem);
            for (int set = 1; set < allOfThem; set++) {
                int size = Integer.bitCount(set);
                if (size < fewest && (set & ~allOfThem) == 0 && stands(set)) {
                    least = set;
                    fewest = size;
                }
            }
        }

        private boolean stands(int set) {
            for (int c = 0; c < net.lanes; c++) {
                if (has(set, c) && !canStand(c, set)) return false;
            }
            return true;
        }
    }

    /**
     * All states, step by step from the empty one. A state is a number with a digit for each
     * lane: 0 for none, or one more than the load's node; sets of states are rows of bits.
     */
    private static final class States {
        private static final int NODES = 4, LANES = 6, MOST = 15625, WORDS = MOST / 32 + 1;

        private final Net net;
        private final Ways ways;
        private final int[] seen = new int[WORDS];
        private final int[] now = new int[WORDS];
        private final int[] later = new int[WORDS];
        private final int[] weight = new int[LANES];
        private final int[] digit = new int[LANES];
        private final int[] entering = new int[NODES];
        private boolean found;
        int count;
        int dead;
        int steps;
        private int workedAt = -1;

        States(Net net, Ways ways) {
            this.net = net;
            this.ways = ways;
        }

        boolean fit() {
            if (net.lanes == 0 || net.lanes > LANES || net.nodes > NODES) return false;
            for (int c = 0; c < net.lanes; c++) {
                if (net.cells[c] != 1) return false;
            }
            return true;
        }

        /** Just behind fit(). */
        void work() {
            if (workedAt == ways.changes) return;
            workedAt = ways.changes;
            prepare();
            reach(0);
            for (int step = 0; step < MOST && found; step++) {
                System.arraycopy(later, 0, now, 0, WORDS);
                Arrays.fill(later, 0);
                found = false;
                visitAll(step);
            }
        }

        private void prepare() {
            Arrays.fill(seen, 0);
            Arrays.fill(later, 0);
            count = 0;
            dead = 0;
            steps = NONE;
            int power = 1;
            for (int c = 0; c < net.lanes; c++) {
                weight[c] = power;
                power *= net.nodes + 1;
            }
            for (int y = 0; y < net.nodes; y++) {
                entering[y] = 0;
                for (int x = 0; x < net.nodes; x++) entering[y] |= ways.outward[x][y];
            }
        }

        private void reach(int state) {
            int word = state >> 5;
            int bit = 1 << (state & 31);
            if ((seen[word] & bit) != 0) return;
            seen[word] |= bit;
            later[word] |= bit;
            found = true;
        }

        private void visitAll(int step) {
            for (int word = 0; word < WORDS; word++) {
                if (now[word] == 0) continue;
                for (int bit = 0; bit < 32; bit++) {
                    if (has(now[word], bit)) visit(word * 32 + bit, step);
                }
            }
        }

        private void visit(int state, int step) {
            int rest = state;
            int empty = 0;
            for (int c = 0; c < net.lanes; c++) {
                digit[c] = rest % (net.nodes + 1);
                rest /= net.nodes + 1;
                if (digit[c] == 0) empty |= 1 << c;
            }
            count++;
            if (isDead()) {
                dead++;
                if (steps == NONE) steps = step;
            }
            for (int c = 0; c < net.lanes; c++) {
                if (digit[c] == 0) setOut(state, c);
                else goOn(state, c, empty);
            }
        }

        private boolean isDead() {
            int stuck = 0;
            for (int c = 0; c < net.lanes; c++) {
                if (digit[c] != 0 && digit[c] - 1 != net.to[c]) stuck |= 1 << c;
            }
            for (int round = 0; round < net.lanes && stuck != 0; round++) {
                int before = stuck;
                for (int c = 0; c < net.lanes; c++) {
                    if (has(stuck, c) && (ways.onward[c][digit[c] - 1] & ~stuck) != 0) {
                        stuck &= ~(1 << c);
                    }
                }
                if (stuck == before) return true;
            }
            return stuck != 0;
        }

        private void setOut(int state, int c) {
            for (int y = 0; y < net.nodes; y++) {
                if (has(entering[y], c)) reach(state + (y + 1) * weight[c]);
            }
        }

        private void goOn(int state, int c, int empty) {
            int without = state - digit[c] * weight[c];
            if (net.to[c] == digit[c] - 1) {
                reach(without);
                return;
            }
            int free = ways.onward[c][digit[c] - 1] & empty;
            for (int d = 0; d < net.lanes; d++) {
                if (has(free, d)) reach(without + digit[c] * weight[d]);
            }
        }
    }

    private static final class Load {
        final int number;
        final int kind;
        final int first;
        final int aim;
        int lane = NONE;
        int lanesTaken;
        int homeTick = NONE;
        int movedTick = NONE;

        Load(int number, int kind, int first, int aim) {
            this.number = number;
            this.kind = kind;
            this.first = first;
            this.aim = aim;
        }
    }

    /** The loads, where they stand, and how they go tick by tick. */
    private static final class Traffic {
        private final Net net;
        private final Ways ways;
        private final Load[] loads = new Load[MAX_LOADS];
        private final int[][] places = new int[MAX_LANES][MAX_CELLS];
        final int[] standing = new int[MAX_LANES];
        int count;
        int tick;

        Traffic(Net net, Ways ways) {
            this.net = net;
            this.ways = ways;
        }

        void clear() {
            Arrays.fill(standing, 0);
            count = 0;
            tick = 0;
        }

        /** null: there is no such load. */
        Load numbered(int l) {
            return l >= 0 && l < count ? loads[l] : null;
        }

        int standsIn(int c, int k) {
            return k >= 0 && k < standing[c] ? places[c][k] : OUTSIDE;
        }

        int countInLanes() {
            int sum = 0;
            for (int c = 0; c < net.lanes; c++) sum += standing[c];
            return sum;
        }

        private boolean hasRoom(int c) {
            return standing[c] < net.cells[c];
        }

        /** The lane of a set into which one of a kind goes now; NONE: it has to stay. */
        int choose(int kind, int set) {
            for (int d = 0; d < net.lanes; d++) {
                if (!has(set, d)) continue;
                if (hasRoom(d)) return d;
                if (kind == SEALED) return NONE;
            }
            return NONE;
        }

        /** The caller has looked whether there is room for one more load, and in the lane. */
        int setOut(int kind, int x, int y, int lane) {
            Load load = new Load(count, kind, x, y);
            loads[count] = load;
            count++;
            enter(load, lane);
            return load.number;
        }

        private void enter(Load load, int lane) {
            places[lane][standing[lane]] = load.number;
            standing[lane]++;
            load.lane = lane;
            load.lanesTaken++;
        }

        int tickOnce() {
            int moved = moveFirsts(true, 0);
            moved = moveFirsts(false, moved);
            tick++;
            return Integer.bitCount(moved);
        }

        /** The lanes out of which one has moved in this tick: those of before and these. */
        private int moveFirsts(boolean hasty, int before) {
            int moved = before;
            for (int c = 0; c < net.lanes; c++) {
                Load load = numbered(standsIn(c, 0));
                if (load == null || has(moved, c) || load.movedTick == tick) continue;
                boolean itsTurn = hasty == (load.kind >= HASTY);
                if (itsTurn && moves(load)) moved |= 1 << c;
            }
            return moved;
        }

        private boolean moves(Load load) {
            int c = load.lane;
            boolean home = net.to[c] == load.aim;
            int d = home ? NONE : choose(load.kind, ways.onward[c][load.aim]);
            if (!home && d == NONE) return false;
            standing[c]--;
            for (int k = 0; k < standing[c]; k++) places[c][k] = places[c][k + 1];
            load.movedTick = tick;
            if (home) {
                load.lane = NONE;
                load.homeTick = tick;
            } else {
                enter(load, d);
            }
            return true;
        }

        int frozenSet() {
            int set = 0;
            for (int c = 0; c < net.lanes; c++) {
                for (int k = 0; k < standing[c]; k++) set |= 1 << places[c][k];
            }
            for (int round = 0; round <= MAX_LOADS; round++) {
                int before = set;
                for (int c = 0; c < net.lanes; c++) set = thaw(c, set);
                if (set == before) return set;
            }
            return set;
        }

        /** Takes those of a lane off that the set does not hold. */
        private int thaw(int c, int set) {
            Load first = numbered(standsIn(c, 0));
            if (first == null || has(set, first.number) && isHeld(first, set)) return set;
            int left = set;
            for (int k = 0; k < standing[c]; k++) left &= ~(1 << places[c][k]);
            return left;
        }

        private boolean isHeld(Load load, int set) {
            if (net.to[load.lane] == load.aim) return false;
            int lanes = ways.onward[load.lane][load.aim];
            if (load.kind == SEALED) lanes = Integer.lowestOneBit(lanes);
            for (int d = 0; d < net.lanes; d++) {
                if (has(lanes, d) && (hasRoom(d) || !has(set, places[d][0]))) return false;
            }
            return true;
        }
    }

    /** The fewest turns to bar, found by trying on ways of its own. */
    private static final class Mends {
        private static final int MOST = 2;

        private final Net net;
        private final Ways ways;
        private final Waits waiting;
        private final Ways triedWays;
        private final Waits tried;
        private final int[] candidates = new int[MAX_LANES * MAX_LANES];
        final int[] turns = new int[MOST];
        int count;
        private int workedAt = -1;

        Mends(Net net, Ways ways, Waits waiting) {
            this.net = net;
            this.ways = ways;
            this.waiting = waiting;
            triedWays = new Ways(net);
            tried = new Waits(net, triedWays);
        }

        void work() {
            if (workedAt == ways.changes) return;
            workedAt = ways.changes;
            waiting.work();
            triedWays.takeFrom(ways);
            int found = gather();
            count = waiting.sure && waiting.ringLength == 0 ? 0 : NONE;
            for (int howMany = 1; howMany <= MOST && count == NONE; howMany++) {
                if (isFound(howMany, found)) count = howMany;
            }
        }

        private int gather() {
            int found = 0;
            for (int c = 0; c < net.lanes; c++) {
                for (int d = 0; d < net.lanes; d++) {
                    if (has(waiting.next[c], d)) {
                        candidates[found] = 10 * c + d;
                        found++;
                    }
                }
            }
            return found;
        }

        /** Goes through the sets as rows, in order; what is left barred is laid anew next time. */
        private boolean isFound(int howMany, int found) {
            for (int a = 0; a < found; a++) {
                setTried(a, true);
                int end = howMany == 1 ? a + 1 : found;
                for (int b = a + howMany - 1; b < end; b++) {
                    setTried(b, true);
                    if (tried.isSound()) {
                        turns[0] = candidates[a];
                        turns[1] = candidates[b];
                        return true;
                    }
                    setTried(b, false);
                }
                setTried(a, false);
            }
            return false;
        }

        private void setTried(int a, boolean yes) {
            triedWays.setBarred(candidates[a] / 10, candidates[a] % 10, yes);
        }
    }

    /** What each lane bears, as shares in least terms. */
    private static final class Bears {
        private final Net net;
        private final Ways ways;
        private final Waits waiting;
        final long[] upper = new long[MAX_LANES];
        final long[] lower = new long[MAX_LANES];
        private final long[] partUpper = new long[MAX_LANES];
        private final long[] partLower = new long[MAX_LANES];
        private int workedAt = -1;

        Bears(Net net, Ways ways, Waits waiting) {
            this.net = net;
            this.ways = ways;
            this.waiting = waiting;
        }

        /** Just where all loads come, whatever they take: then no way comes back. */
        void work() {
            if (workedAt == ways.changes) return;
            workedAt = ways.changes;
            Arrays.fill(upper, 0);
            Arrays.fill(lower, 1);
            for (int y = 0; y < net.nodes; y++) {
                pour(y);
                for (int c = 0; c < net.lanes; c++) {
                    add(upper, lower, c, partUpper[c], partLower[c]);
                }
            }
        }

        private void pour(int y) {
            Arrays.fill(partUpper, 0);
            Arrays.fill(partLower, 1);
            for (int x = 0; x < net.nodes; x++) spread(ways.outward[x][y], 1, 1);
            int left = waiting.carried[y];
            for (int round = 0; round < net.lanes && left != 0; round++) {
                int ready = left & ~ledToFrom(left, y);
                for (int c = 0; c < net.lanes; c++) {
                    if (has(ready, c)) spread(ways.onward[c][y], partUpper[c], partLower[c]);
                }
                left &= ~ready;
            }
        }

        private int ledToFrom(int set, int y) {
            int led = 0;
            for (int c = 0; c < net.lanes; c++) {
                if (has(set, c)) led |= ways.onward[c][y];
            }
            return led;
        }

        private void spread(int set, long up, long low) {
            int parts = Integer.bitCount(set);
            for (int d = 0; d < net.lanes; d++) {
                if (has(set, d)) add(partUpper, partLower, d, up, low * parts);
            }
        }

        private static void add(long[] ups, long[] lows, int c, long up, long low) {
            long shared = commonDivisor(lows[c], low);
            long sum = ups[c] * (low / shared) + up * (lows[c] / shared);
            long product = lows[c] / shared * low;
            long excess = commonDivisor(product, sum);
            ups[c] = sum / excess;
            lows[c] = product / excess;
        }

        /** Above 0 for all numbers, so that it can always divide. */
        private static long commonDivisor(long a, long b) {
            long big = Math.abs(a);
            long small = Math.abs(b);
            for (int k = 0; k < 128 && small > 0; k++) {
                long rest = big % small;
                big = small;
                small = rest;
            }
            return Math.max(big, 1);
        }

        int greatest() {
            int best = 0;
            for (int c = 1; c < net.lanes; c++) {
                long shared = commonDivisor(lower[c], lower[best]);
                long left = upper[c] * (lower[best] / shared);
                long right = upper[best] * (lower[c] / shared);
                if (left > right) best = c;
            }
            return best;
        }
    }
}
