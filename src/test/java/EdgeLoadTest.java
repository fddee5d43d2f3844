/** The edges of loads and ticks, and of an object's life: part 5, the promises 1, 3, 16 to 19, 33. */
public final class EdgeLoadTest {
    private static final int UNKNOWN = -1, OUTSIDE = -2, STATE = -3, FULL = -4, NONE = -9;
    private static final int SEALED = 2;

    private static final String RING = "n3;0>1;1>2;2>0";

    private static final Due DUE = new Due("EdgeLoadTest");

    public static void main(String[] args) {
        newObject(); lastCall(); objectsAreApart();
        thirtyEver(); thirtyOfEachNet(); numbersAsTheyCome(); kindsZeroToTwo(); nodesOfSend(); anotherNode();
        firstWithRoom(); sealedJustTheFirst(); sealedIntoBarred(); asTheyCame(); placesInLane();
        noTicks(); fiftyTicks(); movesAreCounted(); tickOfHome(); lanesItWasIn();
        hastyFirst(); sealedIsHasty(); byNumbers(); whenTheirTurnComes(); noneTwice(); noneTwiceHasty(); noSecondOfALane();
        noSecondBehindHasty(); hastyBehindPlain(); sealedStands(); roomThen(); homeMakesRoom();
        frozenNone(); frozenLastLoad(); frozenRoom(); frozenAtItsNode(); frozenBehind(); frozenBehindFree(); frozenNothing();
        frozenSealed(); frozenNotHome(); frozenByTheFirstThere();
        manyOfEach();
        DUE.end();
    }

    private static void is(String sentence, long got, long want) { DUE.is(sentence, got, want); }

    private static void newObject() {
        for (int what = 0; what <= 5; what++) is("1 a new object: many " + what, new LaneWaits().many(what), 0);
        is("1 no NODE", new LaneWaits().far(0, 0), UNKNOWN);
        is("1 no LANE", new LaneWaits().ofLane(0, 0), UNKNOWN);
        is("1 RULE 0", new LaneWaits().rule(2), 0);
        is("1 no LOAD", new LaneWaits().ofLoad(0, 0), UNKNOWN);
        is("1 none FROZEN", new LaneWaits().frozen(), 0);
        for (int k = 0; k < 4; k++) is("1 no SHEET " + k, new LaneWaits().lose(k), 0);
    }

    private static void lastCall() {
        LaneWaits x = Due.of("n2;0>1");
        // That were 8 calls, and the last one is the 512th.
        for (int k = 9; k <= 511; k++) x.ticks(50);
        is("at most 512 calls: the 512th", x.many(5), 503 * 50);
        LaneWaits y = Due.of("n2;0>1");
        for (int k = 9; k <= 510; k++) y.rule(k % 3);
        is("at most 512 calls: the 511th", y.send(0, 0, 1), 0);
        is("at most 512 calls: the 512th, of mends", y.mend(-1), NONE);
    }

    private static void objectsAreApart() {
        LaneWaits x = Due.of(RING);
        LaneWaits y = new LaneWaits();
        x.send(0, 0, 1);
        x.stamp(0);
        x.put(3, 0, 0);
        is("1 another object has no NET", y.many(0), 0);
        is("1 another object's TRACE", y.trace(), 0);
        is("1 another object's fault", y.fault(), 0);
        is("1 another object's SHEETS", y.lose(0), 0);
    }

    private static LaneWaits sent(int howMany) {
        LaneWaits x = Due.of("n2;0>1;1>0");
        for (int l = 0; l < howMany; l++) {
            is("5 numbered as they come", x.send(l % 3, 0, 1), l);
            x.ticks(1);
        }
        return x;
    }

    private static void thirtyEver() {
        LaneWaits x = sent(29);
        is("5 the thirtieth is taken", x.send(0, 0, 1), 29);
        is("33 thirty", x.many(2), 30);
        x.ticks(1);
        is("33 none is in a LANE", x.many(3), 0);
        is("5 30 ever, those that are HOME, too", x.send(0, 0, 1), FULL);
        is("16 it changes nothing", x.many(2), 30);
        is("18 the last one", x.ofLoad(29, 5), 29);
        is("18 behind the last one", x.ofLoad(30, 5), UNKNOWN);
    }

    private static void thirtyOfEachNet() {
        LaneWaits x = sent(30);
        is("16 FULL", x.send(0, 0, 1), FULL);
        Due.take(x, "n2;0>1*2");
        is("1 no LOADS, so there is room for 30 more", x.send(0, 0, 1), 0);
    }

    private static void numbersAsTheyCome() {
        LaneWaits x = Due.of("n3;0>1;1>2;2>0");
        is("16 its number", x.send(0, 2, 0), 0);
        is("16 a refused one takes no number", x.send(0, 2, 0), STATE);
        is("16 the next", x.send(0, 0, 1), 1);
        is("16 a wrong one takes no number", x.send(3, 1, 2), OUTSIDE);
        is("16 then", x.send(0, 1, 2), 2);
    }

    private static void kindsZeroToTwo() {
        for (int kind = -1; kind <= 3; kind++) {
            LaneWaits x = Due.of("n2;0>1");
            boolean good = kind >= 0 && kind <= 2;
            is("16 kind " + kind, x.send(kind, 0, 1), good ? 0 : OUTSIDE);
            is("18 kind " + kind, x.ofLoad(0, 0), good ? kind : UNKNOWN);
        }
    }

    private static void nodesOfSend() {
        for (int v = -1; v <= 6; v++) {
            LaneWaits x = Due.of("n6;0>1;1>2;2>3;3>4;4>5;5>0");
            boolean good = v >= 0 && v <= 5;
            is("16 from " + v, x.send(0, v, (v + 7) % 6), good ? 0 : UNKNOWN);
            is("16 to " + v, x.send(0, (v + 8) % 6, v), good ? 1 : UNKNOWN);
            if (!good) continue;
            is("18 its first NODE", x.ofLoad(0, 1), v);
            is("18 the one that it is for", x.ofLoad(1, 2), v);
        }
    }

    private static void anotherNode() {
        for (int kind = 0; kind <= 2; kind++) {
            LaneWaits x = Due.of(RING);
            for (int v = 0; v < 3; v++) is("5 from a NODE to another one", x.send(kind, v, v), OUTSIDE);
        }
    }

    private static void firstWithRoom() {
        LaneWaits x = Due.of("n2;0>1*2;0>1;0>1*2");
        int[] lanes = {0, 0, 1, 2, 2};
        for (int l = 0; l < 5; l++) {
            is("5 it SETS OUT", x.send(l % 2, 0, 1), l);
            is("5 into the first LANE that has room", x.ofLoad(l, 3), lanes[l]);
        }
        is("16 STATE: no room at all", x.send(0, 0, 1), STATE);
        is("33 five in LANES", x.many(3), 5);
    }

    private static void sealedJustTheFirst() {
        LaneWaits x = Due.of("n2;0>1*2;0>1");
        is("5 SEALED: room in the first", x.send(SEALED, 0, 1), 0);
        is("5 SEALED: room for one more", x.send(SEALED, 0, 1), 1);
        is("5 SEALED: just into the first", x.send(SEALED, 0, 1), STATE);
        is("5 a HASTY one goes into the second", x.send(1, 0, 1), 2);
        is("5 it does", x.ofLoad(2, 3), 1);
        x.ticks(1);
        is("5 SEALED: room again", x.send(SEALED, 0, 1), 3);
        is("5 SEALED: in the first", x.ofLoad(3, 3), 0);
    }

    private static void sealedIntoBarred() {
        LaneWaits x = Due.of("n3;0>1;1>2;1>2");
        x.bar(0, 1, 1);
        x.send(SEALED, 0, 2);
        x.ticks(1);
        is("5 the first that it MAY take at all", x.ofLoad(0, 3), 2);
        LaneWaits y = Due.of("n3;0>1;1>2;1>2");
        y.bar(0, 1, 1);
        y.bar(0, 2, 1);
        y.send(SEALED, 0, 2);
        is("5 it MAY take nothing", y.ticks(3), 0);
    }

    private static void asTheyCame() {
        LaneWaits x = Due.of("n4;0>2;1>2;2>3*2");
        x.send(0, 1, 3);
        x.ticks(1);
        x.send(1, 0, 3);
        is("5 the first that came", x.ofLane(2, 10), 0);
        is("3 no second one yet", x.ofLane(2, 11), OUTSIDE);
        x.send(2, 2, 3);
        is("5 behind it, though it is SEALED", x.ofLane(2, 11), 2);
        is("5 the first stays", x.ofLane(2, 10), 0);
        x.ticks(1);
        is("5 one left", x.ofLane(2, 10), 2);
        is("3 how many", x.ofLane(2, 3), 1);
    }

    private static void placesInLane() {
        LaneWaits x = Due.of("n2;0>1*2");
        for (int loads = 0; loads <= 2; loads++) {
            is("3 how many LOADS", x.ofLane(0, 3), loads);
            for (int k = 0; k <= 3; k++) is("3 the k-th one: " + k + " of " + loads, x.ofLane(0, 10 + k), k < loads ? k : OUTSIDE);
            x.send(0, 0, 1);
        }
        for (int what = -1; what <= 13; what++) {
            int[] want = {0, 1, 2, 2};
            int due = what >= 0 && what <= 3 ? want[what] : what == 10 || what == 11 ? what - 10 : OUTSIDE;
            is("3 what " + what, x.ofLane(0, what), due);
        }
    }

    private static void noTicks() {
        LaneWaits x = Due.of(RING);
        x.send(0, 0, 2);
        is("17 0 TICKS", x.ticks(0), 0);
        is("17 none went by", x.many(5), 0);
        is("17 it stands", x.ofLoad(0, 3), 0);
    }

    private static void fiftyTicks() {
        for (int n : new int[] {-1, 0, 1, 49, 50, 51}) {
            LaneWaits x = Due.of(RING);
            boolean good = n >= 0 && n <= 50;
            is("17 0 .. 50: " + n, x.ticks(n), good ? 0 : OUTSIDE);
            is("33 TICKS there were", x.many(5), good ? n : 0);
        }
        LaneWaits x = Due.of("n3;0>1;1>0;1>2;2>1");
        x.rule(2);
        x.send(0, 0, 2);
        // To and fro for ever: lane 0 is the first that it MAY take again and again.
        is("17 fifty moves", x.ticks(50), 50);
        is("18 fifty LANES and the first", x.ofLoad(0, 4), 51);
    }

    private static void movesAreCounted() {
        LaneWaits x = Due.of("n4;0>1;1>2;2>3");
        x.send(0, 0, 3);
        x.send(0, 2, 3);
        is("17 one goes on, one comes HOME", x.ticks(1), 2);
        is("17 the other goes on, then HOME", x.ticks(50), 2);
        is("17 no more", x.ticks(50), 0);
    }

    private static void tickOfHome() {
        LaneWaits x = Due.of("n2;0>1*2");
        x.send(0, 0, 1);
        is("18 NONE: it is not HOME", x.ofLoad(0, 5), NONE);
        is("18 it is in LANE 0", x.ofLoad(0, 3), 0);
        x.ticks(1);
        is("18 TICKS are told from 0 on", x.ofLoad(0, 5), 0);
        is("18 NONE: it is HOME", x.ofLoad(0, 3), NONE);
        x.ticks(48);
        x.send(0, 0, 1);
        x.send(0, 0, 1);
        x.ticks(2);
        is("18 the fiftieth TICK", x.ofLoad(1, 5), 49);
        is("18 the one behind it", x.ofLoad(2, 5), 50);
    }

    private static void lanesItWasIn() {
        LaneWaits x = Due.of("n6;0>1;1>2;2>3;3>4;4>5");
        x.send(0, 0, 5);
        for (int k = 1; k <= 5; k++) {
            is("18 how many LANES it was in", x.ofLoad(0, 4), k);
            x.ticks(1);
        }
        is("18 HOME is no LANE", x.ofLoad(0, 4), 5);
        x.bar(0, 1, 1);
        x.send(0, 0, 5);
        x.ticks(9);
        is("18 it stood", x.ofLoad(1, 4), 1);
    }

    // ---- ticks

    /** Both want into lane 1, the one in lane 0 and the one in lane 2. */
    private static LaneWaits both(int kind, int other) {
        LaneWaits x = Due.of("n4;0>2;2>3;1>2");
        x.send(kind, 0, 3);
        x.send(other, 1, 3);
        x.ticks(1);
        return x;
    }

    private static void hastyFirst() {
        is("5 first those of a HASTY one", both(0, 1).ofLoad(1, 3), 1);
        is("5 the PLAIN one stays", both(0, 1).ofLoad(0, 3), 0);
        is("5 HASTY ones by numbers", both(1, 1).ofLoad(0, 3), 1);
        is("5 PLAIN ones by numbers", both(0, 0).ofLoad(0, 3), 1);
        is("5 the HASTY one of the lesser number", both(1, 0).ofLoad(0, 3), 1);
    }

    private static void sealedIsHasty() {
        is("5 SEALED, a HASTY", both(0, 2).ofLoad(1, 3), 1);
        is("5 SEALED and HASTY by numbers", both(1, 2).ofLoad(0, 3), 1);
        is("5 HASTY and SEALED by numbers", both(2, 1).ofLoad(0, 3), 1);
    }

    private static void byNumbers() {
        // Lane 1 leads on from lane 0: it is empty only behind lane 0's turn.
        LaneWaits x = Due.of("n3;0>1;1>2");
        x.send(0, 0, 2);
        x.send(0, 1, 2);
        is("5 lane 0 ahead of lane 1", x.ticks(1), 1);
        is("5 so it stood", x.ofLoad(0, 3), 0);
        LaneWaits y = Due.of("n3;1>2;0>1");
        y.send(0, 0, 2);
        y.send(0, 1, 2);
        is("5 lane 0 ahead of lane 1: room then", y.ticks(1), 2);
        is("5 so it went on", y.ofLoad(0, 3), 0);
    }

    private static void whenTheirTurnComes() {
        // The HASTY one comes into lane 1 ahead of the PLAIN one's turn, so that stands.
        LaneWaits x = Due.of("n4;0>1;1>2;2>3;3>1");
        x.send(0, 0, 2);
        x.send(1, 3, 2);
        is("5 one moves", x.ticks(1), 1);
        is("5 the HASTY one", x.ofLoad(1, 3), 1);
        is("5 the PLAIN one finds no room", x.ofLoad(0, 3), 0);
        // Lane 1's PLAIN one leaves only behind lane 0's HASTY one, that has stood then.
        LaneWaits y = Due.of("n3;0>1;1>2");
        y.send(1, 0, 2);
        y.send(0, 1, 2);
        is("5 no second turn for a HASTY one", y.ticks(1), 1);
        is("5 it stood", y.ofLoad(0, 3), 0);
    }

    private static void noneTwice() {
        LaneWaits x = Due.of("n4;0>1;1>2;2>3");
        x.send(0, 0, 3);
        for (int k = 1; k <= 3; k++) is("5 none moves twice in a TICK", x.ticks(1), 1);
        is("5 three TICKS till it is HOME", x.ofLoad(0, 5), 2);
    }

    private static void noneTwiceHasty() {
        for (int kind = 1; kind <= 2; kind++) {
            LaneWaits x = Due.of("n4;0>1;1>2;2>3");
            x.send(kind, 0, 3);
            for (int k = 1; k <= 3; k++) is("5 no HASTY one moves twice", x.ticks(1), 1);
            is("5 no HASTY one is HOME too soon", x.ofLoad(0, 5), 2);
        }
    }

    private static void noSecondOfALane() {
        for (int kind = 0; kind <= 2; kind++) {
            LaneWaits x = Due.of("n2;0>1*2");
            x.send(kind, 0, 1);
            x.send(kind, 0, 1);
            is("5 of a LANE no second one moves", x.ticks(1), 1);
            is("5 the first left", x.ofLane(0, 10), 1);
            is("5 then the second", x.ticks(1), 1);
        }
    }

    private static void noSecondBehindHasty() {
        for (int kind = 1; kind <= 2; kind++) {
            LaneWaits x = Due.of("n2;0>1*2");
            x.send(kind, 0, 1);
            x.send(0, 0, 1);
            is("5 no PLAIN one behind a HASTY one that moved", x.ticks(1), 1);
            is("5 it stands", x.ofLoad(1, 3), 0);
        }
    }

    private static void hastyBehindPlain() {
        // Lane 2's first is PLAIN: a HASTY one behind it does not make its turn come first.
        LaneWaits x = Due.of("n4;0>2;2>3;1>2*2");
        x.send(0, 0, 3);
        x.send(0, 1, 3);
        x.send(1, 1, 3);
        is("5 the first of a LANE counts", x.ticks(1), 1);
        is("5 lane 0 is first", x.ofLoad(0, 3), 1);
        // A HASTY one that is stuck holds up the PLAIN one behind it.
        LaneWaits y = Due.of("n3;0>1*2;1>2");
        y.bar(0, 1, 1);
        y.send(1, 0, 2);
        y.send(0, 0, 1);
        is("5 the one behind does not pass it", y.ticks(5), 0);
    }

    private static void sealedStands() {
        for (int kind = 0; kind <= 2; kind++) {
            LaneWaits x = Due.of("n4;0>1;1>2;1>2;2>3");
            x.bar(1, 3, 1);
            x.send(0, 1, 3);
            x.send(kind, 0, 3);
            is("5 SEALED ones just into the first: " + kind, x.ticks(1), kind == 2 ? 0 : 1);
            is("5 where it is", x.ofLoad(1, 3), kind == 2 ? 0 : 2);
        }
    }

    private static void roomThen() {
        LaneWaits x = Due.of("n3;0>1*2;1>2*2");
        for (int l = 0; l < 2; l++) x.send(0, 1, 2);
        for (int l = 0; l < 2; l++) x.send(0, 0, 2);
        x.bar(0, 1, 1);
        is("5 one leaves", x.ticks(1), 1);
        x.bar(0, 1, 0);
        is("5 room for one, and one leaves", x.ticks(1), 2);
        is("5 it is behind nothing", x.ofLane(1, 10), 2);
        is("5 the second of lane 0", x.ofLane(0, 10), 3);
    }

    private static void homeMakesRoom() {
        LaneWaits x = Due.of("n2;0>1");
        x.send(0, 0, 1);
        is("16 no room", x.send(0, 0, 1), STATE);
        x.ticks(1);
        is("16 room again", x.send(0, 0, 1), 1);
    }

    // ---- frozen

    private static void frozenNone() {
        is("19 no NET", new LaneWaits().frozen(), 0);
        is("19 no LOADS", Due.of(RING).frozen(), 0);
    }

    private static void frozenLastLoad() {
        LaneWaits x = Due.of(RING);
        for (int l = 0; l < 27; l++) {
            x.send(0, 0, 1);
            x.ticks(1);
        }
        for (int v = 0; v < 3; v++) x.send(0, v, (v + 2) % 3);
        is("sets: LOADS up to the last", x.frozen(), 7 << 27);
        is("19 none moves", x.ticks(50), 0);
    }

    private static void frozenRoom() {
        LaneWaits x = Due.of("n3;0>1;1>2;2>0*2");
        for (int v = 0; v < 3; v++) x.send(0, v, (v + 2) % 3);
        is("5 has no room: there is room for one more", x.frozen(), 0);
        x.send(0, 2, 0);
        is("5 has no room: now it has none", x.frozen(), 15);
    }

    private static void frozenAtItsNode() {
        for (int v = 0; v < 3; v++) {
            LaneWaits x = Due.of(RING);
            for (int a = 0; a < 3; a++) x.send(0, a, a == v ? (a + 1) % 3 : (a + 2) % 3);
            is("5 not at its NODE: " + v, x.frozen(), 0);
        }
    }

    private static void frozenBehind() {
        LaneWaits x = Due.of("n3;0>1*2;1>2");
        x.bar(0, 1, 1);
        x.send(0, 0, 2);
        x.send(0, 0, 1);
        is("5 behind one of the set, though its NODE is there", x.frozen(), 3);
    }

    private static void frozenBehindFree() {
        LaneWaits x = Due.of("n3;0>1*2;1>2");
        x.bar(0, 1, 1);
        x.send(0, 0, 1);
        x.send(0, 0, 2);
        is("5 behind one that leaves", x.frozen(), 0);
        x.ticks(1);
        is("5 then it is the first", x.frozen(), 2);
    }

    private static void frozenNothing() {
        for (int kind = 0; kind <= 2; kind++) {
            LaneWaits x = Due.of(RING);
            x.bar(0, 1, 1);
            x.send(kind, 0, 2);
            is("5 it MAY take nothing: " + kind, x.frozen(), 1);
        }
    }

    private static void frozenSealed() {
        for (int kind = 0; kind <= 2; kind++) {
            LaneWaits x = Due.of("n4;0>1;1>2;1>2;2>3");
            x.bar(1, 3, 1);
            x.send(0, 1, 3);
            x.send(kind, 0, 3);
            is("5 a SEALED one: the first of them: " + kind, x.frozen(), kind == 2 ? 3 : 1);
        }
        // Lane 1 has one that leaves, lane 2 is stuck: the first of them is free.
        LaneWaits y = Due.of("n4;0>1;1>2;1>2;2>3");
        y.bar(2, 3, 1);
        y.send(0, 1, 2);
        y.send(0, 1, 3);
        y.send(SEALED, 0, 3);
        is("5 the first of them is not stuck", y.frozen(), 2);
    }

    private static void frozenNotHome() {
        LaneWaits x = Due.of("n2;0>1");
        x.send(0, 0, 1);
        x.ticks(1);
        is("19 none that is HOME", x.frozen(), 0);
    }

    private static void frozenByTheFirstThere() {
        // Lane 1 is full: its first one leaves, the second would be stuck.
        LaneWaits x = Due.of("n4;0>1;1>2*2;2>3");
        x.bar(1, 2, 1);
        x.send(0, 1, 2);
        x.send(0, 1, 3);
        x.send(0, 0, 3);
        is("5 the first one there is not of the set", x.frozen(), 0);
        x.ticks(1);
        is("5 one left", x.ofLane(1, 3), 1);
        is("5 now the stuck one is the first", x.frozen(), 2);
        x.ticks(1);
        is("5 the other came behind it", x.frozen(), 2 + 4);
    }

    private static void manyOfEach() {
        LaneWaits x = Due.of("n6;0>1*2;1>2*2;2>3;3>4;4>5;5>0;0>2;2>4;4>1;1>0");
        int[] at = {6, 10, 0, 0, 0, 0};
        for (int what = -1; what <= 6; what++) is("33 many " + what, x.many(what), what < 0 || what > 5 ? OUTSIDE : at[what]);
        int turns = 0;
        for (int c = 0; c < 10; c++) {
            for (int d = 0; d < 10; d++) if (x.bar(c, d, 1) == 0) turns++;
        }
        is("33 all TURNS are BARRED", x.many(4), turns);
        is("33 so many there are", turns, 18);
        x.bar(9, 0, 1);
        is("33 none is counted twice", x.many(4), 18);
        x.bar(9, 0, 0);
        is("33 one less", x.many(4), 17);
        x.bar(9, 0, 0);
        is("33 and no less", x.many(4), 17);
    }
}
