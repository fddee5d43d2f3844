import java.nio.file.Files;
import java.nio.file.Path;

/** Counts the answers of one test and tells the wrong ones. */
final class Due {
    private final String name;
    private int calls;
    private int wrong;

    Due(String name) { this.name = name; }

    void is(String call, long got, long want) {
        calls++;
        if (got == want) return;
        wrong++;
        if (wrong <= 40) System.out.println(name + ": " + call + " answered " + got + ", due is " + want);
    }

    void holds(String what, boolean yes) { is(what, yes ? 1 : 0, 1); }

    int wrong() { return wrong; }

    void end() {
        System.out.println(name + ": " + calls + " answers, " + wrong + " wrong");
        if (wrong != 0 || calls == 0) System.exit(1);
    }

    /** Lays a text into a sheet's row of bytes and takes it. */
    static int take(LaneWaits x, String text) {
        x.sheet(0, 0, text.length());
        for (int k = 0; k < text.length(); k++) x.put(0, k, text.charAt(k));
        return x.net(0, 0, 0, text.length());
    }

    static LaneWaits of(String text) {
        LaneWaits x = new LaneWaits();
        take(x, text);
        return x;
    }

    static String source() throws Exception {
        return Files.readString(Path.of("src/main/java/LaneWaits.java"));
    }
}
