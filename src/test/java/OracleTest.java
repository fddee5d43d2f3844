import java.util.ArrayList;
import java.util.List;
import java.util.Random;

/** Long runs of chance calls, from fixed seeds, on LaneWaits and on Model side by side. */
public final class OracleTest {
    private static final int[] ODD = {Integer.MIN_VALUE, -11, -10, -9, -2, -1, 0, 1, 2, 3, 4, 5, 6, 9, 10, 11, 12,
        30, 31, 50, 51, 59, 60, 61, 100, 255, 32768, Integer.MAX_VALUE - 1, Integer.MAX_VALUE};

    private final Random chance;
    private final LaneWaits x = new LaneWaits();
    private final Model m = new Model();
    private final Due due;
    private final String run;
    private final List<String> log = new ArrayList<>();
    private int calls;

    private OracleTest(long seed, Due due) {
        chance = new Random(seed);
        this.due = due;
        run = "seed " + seed;
    }

    public static void main(String[] args) {
        int runs = args.length > 0 ? Integer.parseInt(args[0]) : 1500;
        long from = args.length > 1 ? Long.parseLong(args[1]) : 1;
        Due due = new Due("OracleTest");
        for (long seed = from; seed < from + runs && due.wrong() == 0; seed++) {
            new OracleTest(seed, due).go();
            new OracleTest(-seed, due).goBarred();
        }
        due.end();
    }

    private void go() {
        while (calls < 440) {
            int pick = chance.nextInt(100);
            if (pick < 6 || m.nodes == 0 && pick < 60) takeNet();
            else if (pick < 9) lookAtAll();
            else if (pick < 20) sheets();
            else some();
            if (due.wrong() > 0) break;
        }
        tellLog();
    }

    /** Lanes beside each other, FIRST and many bars: what is come into by turns alone shows here. */
    private void goBarred() {
        int nodes = 3 + below(3);
        StringBuilder s = new StringBuilder("n" + nodes);
        int lanes = nodes + below(11 - nodes);
        for (int c = 0; c < lanes; c++) {
            int a = below(nodes);
            s.append(';').append(a).append('>').append((a + 1 + (below(3) == 0 ? below(nodes - 1) : 0)) % nodes);
        }
        log.add("text " + s);
        Due.take(x, s.toString());
        m.take(s.toString());
        log.add("rule 1");
        same("rule", x.rule(1), m.rule(1));
        for (int k = 0; k < 40; k++) {
            int c = below(lanes), d = below(lanes);
            if (m.lanes.get(c).to() != m.lanes.get(d).from() || below(3) == 0) continue;
            log.add("bar " + c + " " + d);
            same("bar", x.bar(c, d, 1), m.bar(c, d, 1));
            if (below(4) == 0) lookAtAll();
        }
        for (int what = 0; what < 3; what++) same("states " + what, x.states(what), m.states(what));
        tellLog();
    }

    private void tellLog() {
        if (due.wrong() == 0) return;
        System.out.println(run + " " + m);
        for (String call : log) System.out.println("  " + call);
    }

    private void same(String call, long got, long want) {
        calls++;
        if (got != want) log.add(call + " = " + got);
        due.is(run + " " + call, got, want);
    }

    private int below(int n) { return chance.nextInt(Math.max(1, n)); }

    /** Mostly a number that there is, now and then one that is odd. */
    private int mostly(int n) { return chance.nextInt(25) == 0 ? ODD[below(ODD.length)] : below(n); }

    private int node() { return mostly(m.nodes); }
    private int lane() { return mostly(m.lanes.size()); }
    private int load() { return mostly(m.loads.size() + 1); }

    // ---- nets

    private String text() {
        int nodes = 2 + below(5);
        List<String> lanes = new ArrayList<>();
        int form = below(5);
        if (form == 0) for (int a = 0; a < nodes; a++) lanes.add(a + ">" + (a + 1) % nodes);
        if (form == 1) {
            for (int a = 0; a + 1 < nodes; a++) {
                lanes.add(a + ">" + (a + 1));
                lanes.add((a + 1) + ">" + a);
            }
        }
        if (form == 2) {
            for (int a = 1; a < nodes; a++) {
                int b = below(a);
                lanes.add(a + ">" + b);
                lanes.add(b + ">" + a);
            }
        }
        if (form == 3) java.util.Collections.shuffle(lanes, chance);
        int most = below(2) == 0 ? 6 : 10;
        while (lanes.isEmpty() || lanes.size() < most && below(4) != 0) {
            int a = below(nodes), b = below(nodes);
            if (a != b) lanes.add(below(lanes.size() + 1), a + ">" + b);
        }
        boolean single = below(2) == 0;
        StringBuilder s = new StringBuilder("n" + nodes);
        for (String lane : lanes.subList(0, Math.min(lanes.size(), 10))) {
            s.append(';').append(lane);
            if (!single && below(2) == 0 && s.length() < 56) s.append('*').append(1 + below(2));
        }
        return spoil(s);
    }

    private String spoil(StringBuilder s) {
        String codes = "n;>*0123456789:?m/ ";
        int pick = below(12);
        if (pick == 0) s.setCharAt(below(s.length()), codes.charAt(below(codes.length())));
        if (pick == 1) s.setLength(below(s.length() + 1));
        if (pick == 2) s.insert(below(s.length() + 1), codes.charAt(below(codes.length())));
        if (pick == 3) while (s.length() < 48) s.append(";0>1");
        if (s.length() > 60) s.setLength(60);
        return s.toString();
    }

    private void takeNet() {
        String s = text();
        log.add("text " + s);
        int k = below(4), sort = below(3), i = below(61 - s.length());
        int size = s.length() + i + below(61 - s.length() - i);
        sheet(k, sort, size);
        for (int p = 0; p < s.length(); p++) put(k, i + p, s.charAt(p));
        if (sort > 0 && below(20) == 0 && s.length() > 0) {
            int p = below(s.length());
            put(k, i + p, s.charAt(p) + (below(2) == 0 ? 256 : -65536));
        }
        net(k, below(20) == 0 ? mostly(3) : sort, below(30) == 0 ? mostly(60) : i, below(30) == 0 ? mostly(60) : s.length());
    }

    // ---- all that can be looked at without changing anything

    private void lookAtAll() {
        for (int a = 0; a < m.nodes; a++) {
            for (int b = 0; b < m.nodes; b++) {
                same("far", x.far(a, b), m.far(a, b));
                same("out", x.out(a, b), m.out(a, b));
                same("comes(" + a + ", " + b + ")", x.comes(a, b), m.comes(a, b));
            }
        }
        for (int c = 0; c < m.lanes.size(); c++) {
            for (int y = 0; y < m.nodes; y++) same("may", x.may(c, y), m.may(c, y));
            same("carries " + c, x.carries(c), m.carries(c));
            same("waits " + c, x.waits(c), m.waits(c));
            same("rank " + c, x.rank(c), m.rank(c));
            same("bears " + c, x.bears(c, 0), m.bears(c, 0));
            same("bears low " + c, x.bears(c, 1), m.bears(c, 1));
            for (int what = 0; what < 13; what++) same("ofLane " + c + " " + what, x.ofLane(c, what), m.ofLane(c, what));
        }
        for (int k = -2; k < 11; k++) same("ring " + k, x.ring(k), m.ring(k));
        for (int l = 0; l < m.loads.size(); l++) {
            for (int what = 0; what < 7; what++) same("ofLoad " + l + " " + what, x.ofLoad(l, what), m.ofLoad(l, what));
        }
        for (int what = -1; what < 3; what++) same("still " + what, x.still(what), m.still(what));
        for (int k = -2; k < 3; k++) same("mend " + k, x.mend(k), m.mend(k));
        for (int what = -1; what < 7; what++) same("many " + what, x.many(what), m.many(what));
        same("busiest", x.busiest(), m.busiest());
        same("frozen", x.frozen(), m.frozen());
        if (below(3) == 0) for (int what = 0; what < 3; what++) same("states " + what, x.states(what), m.states(what));
        // An object is good for 512 calls; looking counts as few, so that runs stay worthwhile.
        calls = Math.max(0, calls - 150);
    }

    // ---- single calls

    private void some() {
        switch (below(30)) {
            case 0: { int v = mostly(3); log.add("rule " + v); same("rule", x.rule(v), m.rule(v)); break; }
            case 1: case 2: case 3: {
                int c = lane(), d = lane(), v = mostly(2);
                log.add("bar " + c + " " + d + " " + v);
                same("bar", x.bar(c, d, v), m.bar(c, d, v));
                break;
            }
            case 4: case 5: case 6: case 7: case 8: case 9: case 10: case 11: case 12: {
                int kind = mostly(3), a = node(), b = node();
                log.add("send " + kind + " " + a + " " + b);
                same("send", x.send(kind, a, b), m.send(kind, a, b));
                break;
            }
            case 13: case 14: case 15: {
                int n = below(8) == 0 ? mostly(51) : below(3);
                log.add("ticks " + n);
                same("ticks " + n, x.ticks(n), m.ticks(n));
                break;
            }
            case 16: { int l = load(); same("tell", x.tell(l), m.tell(l)); break; }
            case 17: { int l = load(); same("stamp", x.stamp(l), m.stamp(l)); break; }
            case 18: { int l = load(), k = mostly(3); same("as", x.as(l, k), m.as(l, k)); break; }
            case 19: same("trace", x.trace(), m.trace); break;
            case 20: same("fault", x.fault(), m.fault); break;
            case 21: { int a = node(), b = node(); same("comes", x.comes(a, b), m.comes(a, b)); break; }
            case 22: { int c = lane(), y = node(); same("may", x.may(c, y), m.may(c, y)); break; }
            case 23: { int l = load(), w = mostly(7); same("ofLoad", x.ofLoad(l, w), m.ofLoad(l, w)); break; }
            case 24: { int c = lane(), w = mostly(12); same("ofLane", x.ofLane(c, w), m.ofLane(c, w)); break; }
            case 25: { int c = lane(), w = mostly(2); same("bears", x.bears(c, w), m.bears(c, w)); break; }
            case 26: { int w = mostly(6); same("many", x.many(w), m.many(w)); break; }
            case 27: { int c = lane(); same("rank", x.rank(c), m.rank(c)); break; }
            case 28: oddOnes(); break;
            default: same("frozen", x.frozen(), m.frozen()); break;
        }
    }

    private void oddOnes() {
        int a = ODD[below(ODD.length)], b = ODD[below(ODD.length)];
        same("far", x.far(a, b), m.far(a, b));
        same("out", x.out(a, b), m.out(a, b));
        same("carries", x.carries(a), m.carries(a));
        same("waits", x.waits(a), m.waits(a));
        same("ring", x.ring(a), m.ring(a));
        same("still", x.still(a), m.still(a));
        same("mend", x.mend(a), m.mend(a));
        if (a < 0 || a > 2) same("states", x.states(a), m.states(a));
    }

    private void sheets() {
        switch (below(9)) {
            case 0: sheet(mostly(4), mostly(3), mostly(61)); break;
            case 1: { int k = mostly(4); same("lose", x.lose(k), m.lose(k)); break; }
            case 2: case 3: put(mostly(4), mostly(40), chance.nextInt()); break;
            case 4: case 5: {
                int k = mostly(4), i = mostly(40), sort = mostly(3);
                same("cell", x.cell(k, i, sort), m.cell(k, i, sort));
                break;
            }
            case 6: net(mostly(4), mostly(3), mostly(60), mostly(60)); break;
            default: {
                int k = mostly(4), i = mostly(30), o = mostly(4), j = mostly(30), n = mostly(30);
                same("copy", x.copy(k, i, o, j, n), m.copy(k, i, o, j, n));
                break;
            }
        }
        same("fault", x.fault(), m.fault);
    }

    private void sheet(int k, int sort, int n) { same("sheet", x.sheet(k, sort, n), m.sheet(k, sort, n)); }
    private void put(int k, int i, int v) { same("put", x.put(k, i, v), m.put(k, i, v)); }

    private void net(int k, int sort, int i, int n) {
        same("net(" + k + ", " + sort + ", " + i + ", " + n + ")", x.net(k, sort, i, n), m.net(k, sort, i, n));
    }
}
