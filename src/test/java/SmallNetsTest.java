import java.util.ArrayList;
import java.util.List;

/**
 * Every net of two or three nodes with few lanes, by each rule, with no turn, each one turn and
 * some sets of turns barred, on LaneWaits and on Model side by side: where chance calls of
 * OracleTest might miss a small net, none is missed here.
 */
public final class SmallNetsTest {
    private static final Due DUE = new Due("SmallNetsTest");

    public static void main(String[] args) {
        int most = args.length > 0 ? Integer.parseInt(args[0]) : 4;
        netsFrom(2, most, "n2");
        netsFrom(3, most - 1, "n3");
        DUE.end();
    }

    private static void netsFrom(int nodes, int left, String text) {
        if (text.length() > 2) net(text);
        if (left == 0 || DUE.wrong() > 0) return;
        for (int a = 0; a < nodes; a++) {
            for (int b = 0; b < nodes; b++) {
                if (a != b) netsFrom(nodes, left - 1, text + ";" + a + ">" + b);
            }
        }
    }

    private static void net(String text) {
        List<int[]> turns = turnsOf(text);
        for (int rule = 0; rule <= 2; rule++) {
            look(text, rule, List.of());
            for (int a = 0; a < turns.size(); a++) {
                look(text, rule, List.of(turns.get(a)));
                for (int b = a + 1; b < turns.size(); b++) look(text, rule, List.of(turns.get(a), turns.get(b)));
            }
            if (turns.size() > 2) look(text, rule, turns);
        }
    }

    private static List<int[]> turnsOf(String text) {
        Model m = new Model();
        m.take(text);
        List<int[]> turns = new ArrayList<>();
        for (int c = 0; c < m.lanes.size(); c++) {
            for (int d = 0; d < m.lanes.size(); d++) {
                if (m.lanes.get(c).to() == m.lanes.get(d).from()) turns.add(new int[] {c, d});
            }
        }
        return turns;
    }

    private static void look(String text, int rule, List<int[]> turns) {
        LaneWaits x = Due.of(text);
        Model m = new Model();
        m.take(text);
        x.rule(rule);
        m.rule(rule);
        StringBuilder name = new StringBuilder(text + " rule " + rule);
        for (int[] turn : turns) {
            name.append(" barred ").append(turn[0]).append(' ').append(turn[1]).append(',');
            DUE.is(name + " bar", x.bar(turn[0], turn[1], 1), m.bar(turn[0], turn[1], 1));
        }
        lookAtNodes(name + " ", x, m);
        lookAtLanes(name + " ", x, m);
        lookAtAll(name + " ", x, m);
    }

    private static void lookAtNodes(String name, LaneWaits x, Model m) {
        for (int a = 0; a < m.nodes; a++) {
            for (int b = 0; b < m.nodes; b++) {
                DUE.is(name + "far " + a + " " + b, x.far(a, b), m.far(a, b));
                DUE.is(name + "out " + a + " " + b, x.out(a, b), m.out(a, b));
                DUE.is(name + "comes " + a + " " + b, x.comes(a, b), m.comes(a, b));
            }
        }
    }

    private static void lookAtLanes(String name, LaneWaits x, Model m) {
        for (int c = 0; c < m.lanes.size(); c++) {
            for (int y = 0; y < m.nodes; y++) DUE.is(name + "may " + c + " " + y, x.may(c, y), m.may(c, y));
            DUE.is(name + "carries " + c, x.carries(c), m.carries(c));
            DUE.is(name + "waits " + c, x.waits(c), m.waits(c));
            DUE.is(name + "rank " + c, x.rank(c), m.rank(c));
            DUE.is(name + "bears upper " + c, x.bears(c, 0), m.bears(c, 0));
            DUE.is(name + "bears lower " + c, x.bears(c, 1), m.bears(c, 1));
        }
        DUE.is(name + "busiest", x.busiest(), m.busiest());
    }

    private static void lookAtAll(String name, LaneWaits x, Model m) {
        for (int k = -1; k <= m.lanes.size(); k++) DUE.is(name + "ring " + k, x.ring(k), m.ring(k));
        for (int what = 0; what < 2; what++) DUE.is(name + "still " + what, x.still(what), m.still(what));
        for (int what = 0; what < 3; what++) DUE.is(name + "states " + what, x.states(what), m.states(what));
        for (int k = -1; k < 2; k++) DUE.is(name + "mend " + k, x.mend(k), m.mend(k));
    }
}
