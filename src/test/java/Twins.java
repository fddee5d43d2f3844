import java.util.ArrayList;
import java.util.List;
import java.util.function.Supplier;

/**
 * Two objects made by the same calls. One of them gets a call more, that must leave all as it was;
 * then both are asked for all that can be asked and must answer alike. So each check has objects
 * of its own, and none of them is used for more than 512 calls.
 */
final class Twins {
    interface Call { long on(LaneWaits x); }

    private final Due due;
    private final Supplier<LaneWaits> making;

    Twins(Due due, Supplier<LaneWaits> making) {
        this.due = due;
        this.making = making;
    }

    /** What the call answers, what fault() tells behind it, and that it changes nothing else. */
    void leaves(String sentence, Call call, long answer, int faultBehind) {
        LaneWaits x = making.get();
        due.is(sentence, call.on(x), answer);
        due.is(sentence + ", fault() behind it", x.fault(), faultBehind);
        due.is(sentence + ", again", call.on(x), answer);
        List<Long> got = look(x);
        List<Long> want = look(making.get());
        due.is(sentence + ", as much to ask", got.size(), want.size());
        for (int k = 0; k < Math.min(got.size(), want.size()); k++) {
            due.is(sentence + ", changes nothing (question " + k + ")", got.get(k), want.get(k));
        }
    }

    private static List<Long> look(LaneWaits x) {
        List<Long> seen = new ArrayList<>();
        int nodes = x.many(0), lanes = x.many(1), loads = x.many(2);
        seen.add((long) x.trace());
        for (int what = 0; what <= 5; what++) seen.add((long) x.many(what));
        seen.add((long) x.frozen());
        lookAtSheets(x, seen);
        lookAtNet(x, nodes, lanes, seen);
        for (int l = 0; l < Math.min(loads, 6); l++) {
            for (int what = 0; what <= 5; what++) seen.add((long) x.ofLoad(l, what));
        }
        probe(x, nodes, lanes, seen);
        return seen;
    }

    private static void lookAtSheets(LaneWaits x, List<Long> seen) {
        for (int k = 0; k < 4; k++) {
            for (int sort = 0; sort <= 2; sort++) {
                for (int i = 0; i <= 60; i++) {
                    long cell = x.cell(k, i, sort);
                    seen.add(cell);
                    if (cell == LaneWaits.LOST) break;
                }
                seen.add((long) x.fault());
            }
        }
    }

    private static void lookAtNet(LaneWaits x, int nodes, int lanes, List<Long> seen) {
        for (int a = 0; a < nodes; a++) {
            for (int b = 0; b < nodes; b++) {
                seen.add((long) x.out(a, b));
                seen.add((long) x.comes(a, b));
            }
        }
        for (int c = 0; c < lanes; c++) {
            for (int y = 0; y < nodes; y++) seen.add((long) x.may(c, y));
            for (int what : new int[] {0, 1, 2, 3, 10, 11}) seen.add((long) x.ofLane(c, what));
            seen.add((long) x.waits(c));
            seen.add(x.bears(c, 0));
        }
        for (int k = -1; k <= 2; k++) seen.add((long) x.ring(k));
        for (int what = 0; what <= 2; what++) seen.add((long) x.states(what));
        seen.add((long) x.still(0));
        seen.add((long) x.mend(-1));
    }

    /** What tells something only by changing it: at the end. */
    private static void probe(LaneWaits x, int nodes, int lanes, List<Long> seen) {
        seen.add((long) x.rule(0));
        for (int c = 0; c < lanes; c++) {
            for (int d = 0; d < lanes; d++) {
                if (x.ofLane(c, 1) == x.ofLane(d, 0)) seen.add((long) x.bar(c, d, 0));
            }
        }
        seen.add((long) x.ticks(1));
        for (int a = 0; a < nodes; a++) seen.add((long) x.send(0, a, (a + 1) % nodes));
        seen.add((long) x.tell(0));
        seen.add((long) x.trace());
        for (int k = 0; k < 4; k++) seen.add((long) x.lose(k));
    }
}
