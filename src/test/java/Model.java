import java.math.BigInteger;
import java.util.ArrayList;
import java.util.Arrays;
import java.util.HashMap;
import java.util.HashSet;
import java.util.LinkedHashMap;
import java.util.List;
import java.util.Map;
import java.util.Set;
import java.util.TreeSet;
import java.util.regex.Matcher;
import java.util.regex.Pattern;

/**
 * The document told once more, as slowly and as literally as can be: walks, subsets and rings are
 * all gone through one by one. It shares nothing with LaneWaits, so that a fault of thought in
 * the one is not hidden by the same in the other.
 */
final class Model {
    static final int UNKNOWN = -1, OUTSIDE = -2, STATE = -3, FULL = -4, NONE = -9;
    static final long LOST = Long.MIN_VALUE;

    record Lane(int from, int to, int cells) { }

    static class Plain {
        int number, first, aim, taken, home = NONE;
        Lane lane;
        boolean moved;
        int tell(Model m) { m.leave(1); return 10 * first + aim; }
        int stamp(Model m) { m.leave(4); return number; }
    }

    static class Hasty extends Plain {
        @Override int tell(Model m) { m.leave(2); return super.tell(m) + 100; }
    }

    static final class Sealed extends Hasty {
        @Override int tell(Model m) {
            m.leave(3);
            int sum = super.tell(m);
            m.leave(1);
            return sum + 10 * first + aim;
        }
        @Override int stamp(Model m) { m.leave(5); return 90; }
    }

    final Object[] sheets = new Object[4];
    int nodes;
    List<Lane> lanes = new ArrayList<>();
    int rule;
    Set<List<Integer>> barred = new HashSet<>();
    List<Plain> loads = new ArrayList<>();
    Map<Integer, List<Plain>> inLane = new HashMap<>();
    int tick, trace, fault;

    void leave(int number) { trace = trace * 31 + number; }

    // ---- faults, as the machine itself finds them

    interface Deed { long does(); }

    long machine(Deed deed, boolean isLong) {
        fault = 0;
        long answer;
        try {
            answer = deed.does();
        } catch (NullPointerException e) {
            fault = 1;
            return isLong ? LOST : -11;
        } catch (ClassCastException | ArrayStoreException e) {
            fault = 2;
            return isLong ? LOST : -12;
        } catch (IndexOutOfBoundsException e) {
            fault = 3;
            return isLong ? LOST : -13;
        } catch (NegativeArraySizeException e) {
            fault = 4;
            return isLong ? LOST : -14;
        }
        return answer;
    }

    static Object castRow(Object row, int sort) {
        if (sort == 0) return (byte[]) row;
        if (sort == 1) return (short[]) row;
        return (int[]) row;
    }

    static long get(Object row, int i) {
        if (row instanceof byte[] b) return b[i];
        if (row instanceof short[] s) return s[i];
        return ((int[]) row)[i];
    }

    static int length(Object row) { return java.lang.reflect.Array.getLength(row); }

    boolean noSheet(int k) { return k < 0 || k > 3; }

    long sheet(int k, int sort, int n) {
        fault = 0;
        if (noSheet(k)) return UNKNOWN;
        if (sort < 0 || sort > 2 || n > 60) return OUTSIDE;
        return machine(() -> {
            sheets[k] = sort == 0 ? new byte[n] : sort == 1 ? new short[n] : new int[n];
            return 1;
        }, false);
    }

    long lose(int k) {
        if (noSheet(k)) return UNKNOWN;
        boolean had = sheets[k] != null;
        sheets[k] = null;
        return had ? 1 : 0;
    }

    long put(int k, int i, int v) {
        fault = 0;
        if (noSheet(k)) return UNKNOWN;
        return machine(() -> {
            if (sheets[k] instanceof byte[] b) b[i] = (byte) v;
            else if (sheets[k] instanceof short[] s) s[i] = (short) v;
            else ((int[]) sheets[k])[i] = v;
            return 1;
        }, false);
    }

    long cell(int k, int i, int sort) {
        fault = 0;
        if (noSheet(k) || sort < 0 || sort > 2) return LOST;
        return machine(() -> get(castRow(sheets[k], sort), i), true);
    }

    long copy(int k, int i, int other, int j, int n) {
        fault = 0;
        if (noSheet(k) || noSheet(other)) return UNKNOWN;
        return machine(() -> { System.arraycopy(sheets[k], i, sheets[other], j, n); return n; }, false);
    }

    // ---- the net

    static final Map<Integer, Pattern> TEXTS = texts();

    static Map<Integer, Pattern> texts() {
        Map<Integer, Pattern> all = new HashMap<>();
        for (int n = 2; n <= 6; n++) {
            List<String> ways = new ArrayList<>();
            for (int a = 0; a < n; a++) {
                StringBuilder others = new StringBuilder();
                for (int b = 0; b < n; b++) if (b != a) others.append(b);
                ways.add(a + ">[" + others + "]");
            }
            all.put(n, Pattern.compile("n" + n + "(;(" + String.join("|", ways) + ")(\\*[12])?){1,10}"));
        }
        return all;
    }

    static boolean isText(String s) {
        return TEXTS.values().stream().anyMatch(p -> p.matcher(s).matches());
    }

    static boolean goesOn(String start) {
        for (Pattern p : TEXTS.values()) {
            Matcher m = p.matcher(start);
            if (m.matches() || m.hitEnd()) return true;
        }
        return false;
    }

    long net(int sheet, int sort, int i, int n) {
        fault = 0;
        if (noSheet(sheet)) return UNKNOWN;
        if (sort < 0 || sort > 2) return OUTSIDE;
        StringBuilder text = new StringBuilder();
        long answer = machine(() -> {
            Object row = castRow(sheets[sheet], sort);
            int size = length(row);
            // No row has more than 60 cells, so the loop ends before these do.
            int[] codes = new int[Math.min(n, 61)];
            if (i < 0 || i > size) throw new IndexOutOfBoundsException();
            for (int k = 0; k < n; k++) codes[k] = (int) get(row, i + k);
            for (int code : codes) text.append(code >= 0 && code < 128 ? (char) code : '\uffff');
            return 0;
        }, false);
        if (answer != 0) return answer;
        String s = text.toString();
        if (!isText(s)) {
            for (int k = 1; k <= s.length(); k++) if (!goesOn(s.substring(0, k))) return -100 - (k - 1);
            return -100 - s.length();
        }
        take(s);
        return lanes.size();
    }

    void take(String s) {
        nodes = s.charAt(1) - '0';
        lanes = new ArrayList<>();
        for (String part : s.substring(3).split(";")) {
            int cells = part.length() > 3 ? part.charAt(4) - '0' : 1;
            lanes.add(new Lane(part.charAt(0) - '0', part.charAt(2) - '0', cells));
        }
        barred = new HashSet<>();
        loads = new ArrayList<>();
        inLane = new HashMap<>();
        for (int c = 0; c < lanes.size(); c++) inLane.put(c, new ArrayList<>());
        tick = 0;
    }

    boolean noNode(int x) { return x < 0 || x >= nodes; }
    boolean noLane(int c) { return c < 0 || c >= lanes.size(); }
    boolean noLoad(int l) { return l < 0 || l >= loads.size(); }

    long ofLane(int c, int what) {
        if (noLane(c)) return UNKNOWN;
        Lane lane = lanes.get(c);
        if (what == 0) return lane.from;
        if (what == 1) return lane.to;
        if (what == 2) return lane.cells;
        if (what == 3) return inLane.get(c).size();
        if (what == 10 && inLane.get(c).size() > 0) return inLane.get(c).get(0).number;
        if (what == 11 && inLane.get(c).size() > 1) return inLane.get(c).get(1).number;
        return OUTSIDE;
    }

    int farOf(int x, int y) {
        Set<Integer> come = new HashSet<>(Set.of(x));
        for (int k = 0; k < 10; k++) {
            if (come.contains(y)) return k;
            Set<Integer> then = new HashSet<>(come);
            for (Lane lane : lanes) if (come.contains(lane.from)) then.add(lane.to);
            come = then;
        }
        return NONE;
    }

    long far(int x, int y) { return noNode(x) || noNode(y) ? UNKNOWN : farOf(x, y); }

    // ---- rules

    long rule(int v) {
        if (v < 0 || v > 2) return OUTSIDE;
        int was = rule;
        rule = v;
        return was;
    }

    long bar(int c, int d, int v) {
        if (noLane(c) || noLane(d)) return UNKNOWN;
        if (v != 0 && v != 1) return OUTSIDE;
        if (lanes.get(c).to != lanes.get(d).from) return STATE;
        boolean was = v == 1 ? !barred.add(List.of(c, d)) : barred.remove(List.of(c, d));
        return was ? 1 : 0;
    }

    /** c is -1 for one that sets out. */
    TreeSet<Integer> mayTake(int x, int c, int y, Set<List<Integer>> shut) {
        TreeSet<Integer> set = new TreeSet<>();
        if (x == y) return set;
        for (int d = 0; d < lanes.size(); d++) {
            if (lanes.get(d).from != x || shut.contains(List.of(c, d))) continue;
            int on = farOf(lanes.get(d).to, y);
            if (on == NONE) continue;
            if (rule == 2 || on == farOf(x, y) - 1) set.add(d);
        }
        if (rule == 1 && !set.isEmpty()) return new TreeSet<>(Set.of(set.first()));
        return set;
    }

    TreeSet<Integer> outSet(int x, int y) { return mayTake(x, -1, y, barred); }
    TreeSet<Integer> onSet(int c, int y) { return mayTake(lanes.get(c).to, c, y, barred); }

    static int bits(Iterable<Integer> set) {
        int sum = 0;
        for (int k : set) sum += 1 << k;
        return sum;
    }

    long may(int c, int y) { return noLane(c) || noNode(y) ? UNKNOWN : bits(onSet(c, y)); }
    long out(int x, int y) { return noNode(x) || noNode(y) ? UNKNOWN : bits(outSet(x, y)); }

    /** Goes all walks till they end or come to a lane twice. */
    void walk(List<Integer> walk, TreeSet<Integer> then, int y, Set<String> ends, Set<Integer> seen) {
        if (then.isEmpty()) ends.add("stuck");
        for (int d : then) {
            if (walk.contains(d)) { ends.add("again"); continue; }
            seen.add(d);
            if (lanes.get(d).to == y) { ends.add("there"); continue; }
            List<Integer> longer = new ArrayList<>(walk);
            longer.add(d);
            walk(longer, onSet(d, y), y, ends, seen);
        }
    }

    int comesHow(int x, int y) {
        Set<String> ends = new HashSet<>();
        walk(List.of(), outSet(x, y), y, ends, new HashSet<>());
        if (ends.equals(Set.of("there"))) return 2;
        return ends.contains("there") ? 1 : 0;
    }

    long comes(int x, int y) {
        if (noNode(x) || noNode(y)) return UNKNOWN;
        return x == y ? OUTSIDE : comesHow(x, y);
    }

    // ---- waits

    Map<Integer, TreeSet<Integer>> carried() {
        Map<Integer, TreeSet<Integer>> all = new HashMap<>();
        for (int c = 0; c < lanes.size(); c++) all.put(c, new TreeSet<>());
        for (int y = 0; y < nodes; y++) {
            for (int x = 0; x < nodes; x++) {
                if (x == y) continue;
                Set<Integer> seen = new HashSet<>();
                walk(List.of(), outSet(x, y), y, new HashSet<>(), seen);
                for (int c : seen) all.get(c).add(y);
            }
        }
        return all;
    }

    Map<Integer, TreeSet<Integer>> waiting() {
        Map<Integer, TreeSet<Integer>> carried = carried();
        Map<Integer, TreeSet<Integer>> all = new HashMap<>();
        for (int c = 0; c < lanes.size(); c++) {
            all.put(c, new TreeSet<>());
            for (int y : carried.get(c)) if (lanes.get(c).to != y) all.get(c).addAll(onSet(c, y));
        }
        return all;
    }

    long carries(int c) { return noLane(c) ? UNKNOWN : bits(carried().get(c)); }
    long waits(int c) { return noLane(c) ? UNKNOWN : bits(waiting().get(c)); }

    void rings(Map<Integer, TreeSet<Integer>> waits, List<Integer> row, List<List<Integer>> all) {
        for (int d : waits.get(row.get(row.size() - 1))) {
            if (d == row.get(0)) all.add(row);
            if (d <= row.get(0) || row.contains(d)) continue;
            List<Integer> longer = new ArrayList<>(row);
            longer.add(d);
            rings(waits, longer, all);
        }
    }

    static int compareRows(List<Integer> a, List<Integer> b) {
        if (a.size() != b.size()) return a.size() - b.size();
        for (int k = 0; k < a.size(); k++) {
            if (!a.get(k).equals(b.get(k))) return a.get(k) - b.get(k);
        }
        return 0;
    }

    List<Integer> theRing() {
        Map<Integer, TreeSet<Integer>> waits = waiting();
        List<List<Integer>> all = new ArrayList<>();
        for (int c = 0; c < lanes.size(); c++) rings(waits, List.of(c), all);
        all.sort(Model::compareRows);
        return all.isEmpty() ? List.of() : all.get(0);
    }

    long ring(int k) {
        if (k < -1 || k > 9) return UNKNOWN;
        if (nodes == 0) return STATE;
        List<Integer> ring = theRing();
        if (k == -1) return ring.size();
        return k < ring.size() ? ring.get(k) : NONE;
    }

    static int rankOf(int c, Map<Integer, TreeSet<Integer>> waits) {
        int most = 0;
        for (int d : waits.get(c)) most = Math.max(most, 1 + rankOf(d, waits));
        return most;
    }

    long rank(int c) {
        if (noLane(c)) return UNKNOWN;
        return theRing().isEmpty() ? rankOf(c, waiting()) : STATE;
    }

    long still(int what) {
        if (what != 0 && what != 1) return OUTSIDE;
        if (nodes == 0) return STATE;
        Map<Integer, TreeSet<Integer>> carried = carried();
        Map<Integer, Set<Integer>> needs = new HashMap<>();
        for (int c = 0; c < lanes.size(); c++) {
            needs.put(c, new HashSet<>());
            for (int y : carried.get(c)) if (lanes.get(c).to != y) needs.get(c).add(bits(onSet(c, y)));
        }
        int union = 0, least = 0;
        for (int set = 1; set < 1 << lanes.size(); set++) {
            boolean stands = true;
            for (int c = 0; c < lanes.size() && stands; c++) {
                int s = set;
                if ((set & 1 << c) != 0) stands = needs.get(c).stream().anyMatch(need -> (need | s) == s);
            }
            if (!stands) continue;
            union |= set;
            if (least == 0 || Integer.bitCount(set) < Integer.bitCount(least)) least = set;
        }
        return what == 0 ? union : least;
    }

    // ---- states: a row with the load's node, or -1, for each lane

    boolean statesFit() {
        return nodes > 0 && nodes <= 4 && lanes.size() <= 6 && lanes.stream().allMatch(l -> l.cells == 1);
    }

    List<List<Integer>> stepsFrom(List<Integer> state) {
        List<List<Integer>> all = new ArrayList<>();
        for (int x = 0; x < nodes; x++) {
            for (int y = 0; y < nodes; y++) {
                for (int d : outSet(x, y)) if (state.get(d) < 0) all.add(with(state, d, y));
            }
        }
        for (int c = 0; c < lanes.size(); c++) {
            int y = state.get(c);
            if (y < 0) continue;
            List<Integer> without = with(state, c, -1);
            if (lanes.get(c).to == y) all.add(without);
            for (int d : onSet(c, y)) if (state.get(d) < 0) all.add(with(without, d, y));
        }
        return all;
    }

    static List<Integer> with(List<Integer> state, int c, int y) {
        List<Integer> row = new ArrayList<>(state);
        row.set(c, y);
        return row;
    }

    boolean deadState(List<Integer> state) {
        for (int set = 1; set < 1 << lanes.size(); set++) {
            boolean holds = true;
            for (int c = 0; c < lanes.size() && holds; c++) {
                if ((set & 1 << c) == 0) continue;
                int y = state.get(c);
                holds = y >= 0 && lanes.get(c).to != y && (bits(onSet(c, y)) & ~set) == 0;
            }
            if (holds) return true;
        }
        return false;
    }

    long states(int what) {
        if (what < 0 || what > 2) return OUTSIDE;
        if (!statesFit()) return STATE;
        List<Integer> empty = new ArrayList<>();
        for (int c = 0; c < lanes.size(); c++) empty.add(-1);
        Map<List<Integer>, Integer> steps = new LinkedHashMap<>();
        steps.put(empty, 0);
        List<List<Integer>> queue = new ArrayList<>(List.of(empty));
        int dead = 0, fewest = NONE;
        for (int k = 0; k < queue.size(); k++) {
            List<Integer> state = queue.get(k);
            if (deadState(state)) {
                dead++;
                if (fewest == NONE) fewest = steps.get(state);
            }
            for (List<Integer> then : stepsFrom(state)) {
                if (steps.putIfAbsent(then, steps.get(state) + 1) == null) queue.add(then);
            }
        }
        return what == 0 ? queue.size() : what == 1 ? dead : fewest;
    }

    // ---- loads

    int laneFor(Plain load, TreeSet<Integer> may) {
        if (load instanceof Sealed && !may.isEmpty()) may = new TreeSet<>(Set.of(may.first()));
        for (int d : may) if (inLane.get(d).size() < lanes.get(d).cells) return d;
        return NONE;
    }

    static int kindOf(Plain load) { return load instanceof Sealed ? 2 : load instanceof Hasty ? 1 : 0; }

    long send(int kind, int x, int y) {
        if (noNode(x) || noNode(y)) return UNKNOWN;
        if (kind < 0 || kind > 2 || x == y) return OUTSIDE;
        Plain load = kind == 0 ? new Plain() : kind == 1 ? new Hasty() : new Sealed();
        int d = laneFor(load, outSet(x, y));
        if (d == NONE) return STATE;
        if (loads.size() == 30) return FULL;
        load.number = loads.size();
        load.first = x;
        load.aim = y;
        loads.add(load);
        enter(load, d);
        return load.number;
    }

    void enter(Plain load, int d) {
        inLane.get(d).add(load);
        load.lane = lanes.get(d);
        load.taken++;
    }

    long ticks(int n) {
        if (n < 0 || n > 50) return OUTSIDE;
        if (nodes == 0) return STATE;
        int moves = 0;
        for (int k = 0; k < n; k++) {
            for (Plain load : loads) load.moved = false;
            Set<Integer> left = new HashSet<>();
            for (boolean hasty : new boolean[] {true, false}) {
                for (int c = 0; c < lanes.size(); c++) {
                    if (inLane.get(c).isEmpty() || left.contains(c)) continue;
                    Plain load = inLane.get(c).get(0);
                    if (load instanceof Hasty != hasty || load.moved) continue;
                    if (goes(load, c)) { moves++; left.add(c); }
                }
            }
            tick++;
        }
        return moves;
    }

    boolean goes(Plain load, int c) {
        if (lanes.get(c).to == load.aim) {
            inLane.get(c).remove(0);
            load.lane = null;
            load.home = tick;
            return true;
        }
        int d = laneFor(load, onSet(c, load.aim));
        if (d == NONE) return false;
        inLane.get(c).remove(0);
        enter(load, d);
        load.moved = true;
        return true;
    }

    int laneOf(Plain load) {
        for (int c = 0; c < lanes.size(); c++) if (inLane.get(c).contains(load)) return c;
        return NONE;
    }

    long ofLoad(int l, int what) {
        if (noLoad(l)) return UNKNOWN;
        Plain load = loads.get(l);
        return switch (what) {
            case 0 -> kindOf(load);
            case 1 -> load.first;
            case 2 -> load.aim;
            case 3 -> laneOf(load);
            case 4 -> load.taken;
            case 5 -> load.home;
            default -> OUTSIDE;
        };
    }

    boolean held(Plain load, Set<Plain> set) {
        int c = laneOf(load);
        List<Plain> row = inLane.get(c);
        if (row.indexOf(load) > 0) {
            return row.subList(0, row.indexOf(load)).stream().anyMatch(set::contains);
        }
        if (lanes.get(c).to == load.aim) return false;
        TreeSet<Integer> may = onSet(c, load.aim);
        if (load instanceof Sealed && !may.isEmpty()) may = new TreeSet<>(Set.of(may.first()));
        for (int d : may) {
            if (inLane.get(d).size() < lanes.get(d).cells || !set.contains(inLane.get(d).get(0))) return false;
        }
        return true;
    }

    /** The union of all sets that hold, where they are few enough to go through; else by taking off. */
    long frozen() {
        List<Plain> here = new ArrayList<>();
        for (Plain load : loads) if (laneOf(load) != NONE) here.add(load);
        Set<Plain> union = new HashSet<>();
        if (here.size() <= 9) {
            for (int bits = 1; bits < 1 << here.size(); bits++) {
                Set<Plain> set = new HashSet<>();
                for (int k = 0; k < here.size(); k++) if ((bits & 1 << k) != 0) set.add(here.get(k));
                if (set.stream().allMatch(load -> held(load, set))) union.addAll(set);
            }
        } else {
            union.addAll(here);
            while (union.removeIf(load -> !held(load, union))) { }
        }
        int answer = 0;
        for (Plain load : union) answer |= 1 << load.number;
        return answer;
    }

    // ---- mends, bears

    boolean allCome() {
        for (int x = 0; x < nodes; x++) {
            for (int y = 0; y < nodes; y++) if (x != y && comesHow(x, y) != 2) return false;
        }
        return true;
    }

    boolean soundWith(List<List<Integer>> turns) {
        Set<List<Integer>> before = barred;
        barred = new HashSet<>(before);
        barred.addAll(turns);
        boolean sound = allCome() && theRing().isEmpty();
        barred = before;
        return sound;
    }

    /** null: not with two. */
    List<List<Integer>> mends() {
        List<List<Integer>> turns = new ArrayList<>();
        Map<Integer, TreeSet<Integer>> waits = waiting();
        for (int c = 0; c < lanes.size(); c++) for (int d : waits.get(c)) turns.add(List.of(c, d));
        if (soundWith(List.of())) return List.of();
        for (List<Integer> a : turns) if (soundWith(List.of(a))) return List.of(a);
        for (int a = 0; a < turns.size(); a++) {
            for (int b = a + 1; b < turns.size(); b++) {
                List<List<Integer>> both = List.of(turns.get(a), turns.get(b));
                if (soundWith(both)) return both;
            }
        }
        return null;
    }

    long mend(int k) {
        if (k < -1 || k > 1) return UNKNOWN;
        if (nodes == 0) return STATE;
        List<List<Integer>> mends = mends();
        if (mends == null) return NONE;
        if (k == -1) return mends.size();
        return k < mends.size() ? 10 * mends.get(k).get(0) + mends.get(k).get(1) : NONE;
    }

    /** Upper and lower number of what comes into each lane. */
    BigInteger[][] shares() {
        BigInteger[][] sums = new BigInteger[lanes.size()][];
        for (int c = 0; c < sums.length; c++) sums[c] = new BigInteger[] {BigInteger.ZERO, BigInteger.ONE};
        for (int x = 0; x < nodes; x++) {
            for (int y = 0; y < nodes; y++) pour(outSet(x, y), y, BigInteger.ONE, sums);
        }
        return sums;
    }

    void pour(TreeSet<Integer> may, int y, BigInteger lower, BigInteger[][] sums) {
        BigInteger part = lower.multiply(BigInteger.valueOf(may.size()));
        for (int d : may) {
            BigInteger up = sums[d][0].multiply(part).add(sums[d][1]);
            BigInteger low = sums[d][1].multiply(part);
            BigInteger g = up.gcd(low);
            sums[d] = new BigInteger[] {up.divide(g), low.divide(g)};
            pour(onSet(d, y), y, part, sums);
        }
    }

    long bears(int c, int which) {
        if (noLane(c) || which < 0 || which > 1 || !allCome()) return LOST;
        return shares()[c][which].longValueExact();
    }

    long busiest() {
        if (nodes == 0 || !allCome()) return STATE;
        BigInteger[][] shares = shares();
        int best = 0;
        for (int c = 0; c < shares.length; c++) {
            if (shares[c][0].multiply(shares[best][1]).compareTo(shares[best][0].multiply(shares[c][1])) > 0) best = c;
        }
        return best;
    }

    // ---- parts

    long tell(int l) { return noLoad(l) ? UNKNOWN : loads.get(l).tell(this); }
    long stamp(int l) { return noLoad(l) ? UNKNOWN : loads.get(l).stamp(this); }

    long as(int l, int kind) {
        fault = 0;
        if (noLoad(l)) return UNKNOWN;
        if (kind < 0 || kind > 2) return OUTSIDE;
        return machine(() -> {
            Object load = loads.get(l);
            Plain taken = kind == 0 ? (Plain) load : kind == 1 ? (Hasty) load : (Sealed) load;
            return taken == null ? 0 : 1;
        }, false);
    }

    long many(int what) {
        return switch (what) {
            case 0 -> nodes;
            case 1 -> lanes.size();
            case 2 -> loads.size();
            case 3 -> inLane.values().stream().mapToInt(List::size).sum();
            case 4 -> barred.size();
            case 5 -> tick;
            default -> OUTSIDE;
        };
    }

    @Override public String toString() {
        return "nodes " + nodes + " lanes " + Arrays.toString(lanes.toArray()) + " rule " + rule + " barred " + barred;
    }
}
