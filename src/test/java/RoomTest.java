import com.sun.management.ThreadMXBean;
import java.lang.management.ManagementFactory;

/**
 * All calls of a run live in one room of some 600,000 objects and 7.3 million elements. An object
 * has to be cheap to make, and its calls must make next to nothing.
 */
public final class RoomTest {
    private static final ThreadMXBean MEMORY = (ThreadMXBean) ManagementFactory.getThreadMXBean();
    private static final Due DUE = new Due("RoomTest");

    public static void main(String[] args) {
        LaneWaits[] kept = new LaneWaits[512];
        long before = MEMORY.getCurrentThreadAllocatedBytes();
        for (int k = 0; k < kept.length; k++) kept[k] = new LaneWaits();
        long each = (MEMORY.getCurrentThreadAllocatedBytes() - before) / kept.length;
        System.out.println("an object takes " + each + " bytes");
        // 512 of them: at 4 bytes an element 7.3 million are 29 million bytes.
        DUE.holds("512 objects fit: " + each, each * 512 < 29_000_000 / 2);

        LaneWaits x = Due.of("n4;0>1;1>0;1>2;2>1;2>3;3>2");
        LaneWaits y = Due.of("n5;1>2;0>1;2>3;4>0;2>3;3>1;3>4;4>0");
        dearCalls(x);
        dearCalls(y);
        before = MEMORY.getCurrentThreadAllocatedBytes();
        dearCalls(x);
        dearCalls(y);
        long calls = (MEMORY.getCurrentThreadAllocatedBytes() - before) / (2 * 8 * 19);
        System.out.println("a dear call takes " + calls + " bytes");
        DUE.holds("calls make next to nothing: " + calls, calls < 64);
        DUE.end();
    }

    private static void dearCalls(LaneWaits x) {
        for (int k = 0; k < 8; k++) {
            // Each turn of the rule makes all that is kept stale.
            x.rule(k % 3);
            for (int what = 0; what < 3; what++) x.states(what);
            for (int j = -1; j < 2; j++) x.mend(j);
            x.ring(-1);
            x.still(0);
            x.still(1);
            x.bears(0, 0);
            x.busiest();
            x.comes(0, 2);
            x.rank(1);
            x.send(k % 3, k % 4, (k + 1) % 4);
            x.ticks(50);
            x.frozen();
            x.sheet(1, 2, 60);
            x.copy(1, 0, 1, 1, 59);
        }
    }
}
