/**
 * The edges of texts: for each sentence of part 1 that names one a test of its own. Refused calls
 * of net() are in RefusedTest.
 */
public final class EdgeTextTest {
    private static final int NONE = -9;
    private static final int MIN = Integer.MIN_VALUE, MAX = Integer.MAX_VALUE;

    private static final Due DUE = new Due("EdgeTextTest");

    public static void main(String[] args) {
        nodesTwoToSix();
        nodesFromZeroOn();
        lanesOneToTen();
        lanesFromZeroOn();
        eleventhLane();
        anotherNode();
        cellsOneOrTwo();
        cellsIfNotTold();
        eachWrongCode();
        eachEnd();
        faultOfNoText();
        fullRow();
        placesFromTheFirstCodeOn();
        noMoreThanTold();
        codesAreNotCut();
        codesAreCutAsTheyAreLaid();
        takenMakesLoadsAnew();
        takenBarsNoTurn();
        takenSetsTheTick();
        takenLeavesTheRest();
        far();
        DUE.end();
    }

    private static void is(String sentence, long got, long want) { DUE.is(sentence, got, want); }

    private static void takes(String sentence, String text, int want) {
        LaneWaits x = new LaneWaits();
        is(sentence + ": " + text, Due.take(x, text), want);
        is(sentence + ": no fault of " + text, x.fault(), 0);
        is(sentence + ": lanes of " + text, x.many(1), Math.max(want, 0));
    }

    private static String lanes(int howMany) { return ";0>1".repeat(howMany); }

    private static void nodesTwoToSix() {
        for (char digit = '/'; digit <= ':'; digit++) {
            LaneWaits x = new LaneWaits();
            boolean good = digit >= '2' && digit <= '6';
            is("1 a digit 2 .. 6: " + digit, Due.take(x, "n" + digit + ";0>1"), good ? 1 : -101);
            is("1 so many NODES: " + digit, x.many(0), good ? digit - '0' : 0);
        }
    }

    private static void nodesFromZeroOn() {
        for (int n = 2; n <= 6; n++) {
            for (int a = 0; a <= 9; a++) {
                int other = a == 0 ? 1 : 0;
                takes("1 a NODE's digit", "n" + n + ";" + a + ">" + other, a < n ? 1 : -103);
                takes("1 another NODE's digit", "n" + n + ";" + other + ">" + a, a < n ? 1 : -105);
            }
            LaneWaits x = Due.of("n" + n + ";0>1");
            is("1 the last NODE", x.far(n - 1, n - 1), 0);
            is("1 behind the last NODE", x.far(n, n), -1);
        }
    }

    private static void lanesOneToTen() {
        takes("1 no LANES", "n2", -102);
        for (int lanes = 1; lanes <= 10; lanes++) takes("1 to 10 LANES", "n2" + lanes(lanes), lanes);
        takes("1 eleven LANES", "n2" + lanes(11), -142);
    }

    private static void lanesFromZeroOn() {
        LaneWaits x = Due.of("n6;0>1;1>2*2;2>3;3>4;4>5;5>0*2;0>2;2>4*1;4>1;1>0*2");
        int[] from = {0, 1, 2, 3, 4, 5, 0, 2, 4, 1}, to = {1, 2, 3, 4, 5, 0, 2, 4, 1, 0}, cells = {1, 2, 1, 1, 1, 2, 1, 1, 1, 2};
        for (int c = 0; c < 10; c++) {
            is("1 numbered from 0 on: from", x.ofLane(c, 0), from[c]);
            is("1 numbered from 0 on: to", x.ofLane(c, 1), to[c]);
            is("1 numbered from 0 on: cells", x.ofLane(c, 2), cells[c]);
        }
        is("1 behind the last LANE", x.ofLane(10, 0), -1);
    }

    private static void eleventhLane() {
        takes("1 the ; of an eleventh LANE, just it", "n2" + lanes(10) + ";", -142);
        takes("1 the ; of an eleventh LANE, behind a digit", "n2" + lanes(9) + ";0>1*2;", -144);
        takes("1 the ; of an eleventh LANE, behind cells", "n2" + ";0>1*1".repeat(8) + lanes(2) + ";", -158);
        takes("1 an eleventh LANE that is wrong itself", "n2" + lanes(10) + ";9", -142);
        takes("1 ten and their cells", "n2" + lanes(9) + ";0>1*2", 10);
        takes("1 ten and another code", "n2" + lanes(10) + ":", -142);
        takes("1 ten, cells without a digit", "n2" + lanes(10) + "*", -143);
    }

    private static void anotherNode() {
        for (int n = 2; n <= 6; n++) {
            for (int a = 0; a < n; a++) {
                takes("1 not the same NODE", "n" + n + ";" + a + ">" + a, -105);
                takes("1 not the same NODE, later", "n" + n + ";0>1;" + a + ">" + a, -109);
            }
        }
        takes("1 the same LANE again", "n2;0>1;0>1", 2);
    }

    private static void cellsOneOrTwo() {
        for (char digit = '/'; digit <= ':'; digit++) {
            boolean good = digit == '1' || digit == '2';
            takes("1 * and a digit 1, 2", "n2;0>1*" + digit, good ? 1 : -107);
            takes("1 * and a digit 1, 2, later", "n2;0>1;1>0*" + digit, good ? 2 : -111);
        }
        takes("1 * twice", "n2;0>1**1", -107);
        takes("1 cells twice", "n2;0>1*1*1", -108);
        takes("1 two digits", "n2;0>1*11", -108);
        LaneWaits x = Due.of("n2;0>1*2");
        is("1 room for two: the first", x.send(0, 0, 1), 0);
        is("1 room for two: the second", x.send(0, 0, 1), 1);
        is("1 room for two: no third", x.send(0, 0, 1), -3);
        LaneWaits y = Due.of("n2;0>1*1");
        is("1 room for one: the first", y.send(0, 0, 1), 0);
        is("1 room for one: no second", y.send(0, 0, 1), -3);
    }

    private static void cellsIfNotTold() {
        LaneWaits x = Due.of("n2;0>1*2;0>1*2");
        is("1 told", x.ofLane(0, 2), 2);
        Due.take(x, "n2;0>1;1>0*2");
        is("1 one, if it is not told, whatever was there", x.ofLane(0, 2), 1);
        is("1 told again", x.ofLane(1, 2), 2);
        is("1 room for one", x.send(0, 0, 1), 0);
        is("1 and no second", x.send(0, 0, 1), -3);
    }

    /** Each code but the good ones, at each place of a text. */
    private static void eachWrongCode() {
        String text = "n3;0>1*2;1>2";
        String[] good = {"n", "23456", ";", "012", ">", "12", "*;", "12", ";", "012", ">", "02"};
        LaneWaits probe = Due.of(text);
        is("1 the text is one", probe.many(1), 2);
        for (int place = 0; place < text.length(); place++) {
            for (int code = -128; code <= 127; code++) {
                if (good[place].indexOf(code) >= 0) continue;
                LaneWaits x = new LaneWaits();
                x.sheet(0, 0, text.length());
                for (int k = 0; k < text.length(); k++) x.put(0, k, k == place ? code : text.charAt(k));
                is("1 code " + code + " at " + place, x.net(0, 0, 0, text.length()), -100 - place);
            }
        }
        takes("1 behind the last digit no digit", text + "0", -112);
        takes("1 behind the last digit a ;", text + ";", -113);
    }

    private static void eachEnd() {
        String text = "n2;0>1*2;1>0";
        for (int end = 0; end <= text.length(); end++) {
            int want = end == 6 || end == 8 ? 1 : end == 12 ? 2 : -100 - end;
            takes("1 it just ends too soon", text.substring(0, end), want);
        }
    }

    private static void faultOfNoText() {
        takes("1 nothing at all", "", -100);
        takes("1 the first code that is wrong, not the last", "m1,0<1", -100);
        takes("1 two faults", "n9;9>9", -101);
        takes("1 wrong and too short", "n2;0<", -104);
    }

    private static void fullRow() {
        String text = "n6" + ";0>1*2".repeat(9) + ";5>4";
        is("1 it fills a row", text.length(), 60);
        takes("1 a text of 60 codes", text, 10);
        LaneWaits x = new LaneWaits();
        x.sheet(3, 2, 60);
        for (int k = 0; k < 60; k++) x.put(3, k, text.charAt(k));
        is("1 all 60 of ints", x.net(3, 2, 0, 60), 10);
        is("1 59 of them", x.net(3, 2, 0, 59), -159);
        is("1 61 of them", x.net(3, 2, 0, 61), -13);
        is("1 from 1 on, 60", x.net(3, 2, 1, 60), -13);
    }

    private static void placesFromTheFirstCodeOn() {
        for (int i = 0; i <= 60; i++) {
            LaneWaits x = new LaneWaits();
            x.sheet(0, 0, 60);
            if (i < 60) x.put(0, i, 'n');
            if (i + 1 < 60) x.put(0, i + 1, '3');
            int left = 60 - i;
            is("2 places are told from i on: " + i, x.net(0, 0, i, left), -100 - Math.min(left, 2));
        }
        LaneWaits x = new LaneWaits();
        x.sheet(1, 1, 60);
        String text = "n2;0>1";
        for (int k = 0; k < 6; k++) x.put(1, 54 + k, text.charAt(k));
        is("2 up to the last cell", x.net(1, 1, 54, 6), 1);
        is("2 one cell further", x.net(1, 1, 55, 6), -13);
    }

    private static void noMoreThanTold() {
        LaneWaits x = new LaneWaits();
        String text = "n2;0>1;1>0;;";
        x.sheet(0, 0, text.length());
        for (int k = 0; k < text.length(); k++) x.put(0, k, text.charAt(k));
        is("2 of n cells: what is behind them does not count", x.net(0, 0, 0, 6), 1);
        is("2 of n cells: more", x.net(0, 0, 0, 10), 2);
        is("2 of n cells: all", x.net(0, 0, 0, 12), -111);
    }

    private static void codesAreNotCut() {
        String text = "n2;0>1";
        for (int sort = 1; sort <= 2; sort++) {
            for (int place = 0; place < 6; place++) {
                LaneWaits x = new LaneWaits();
                x.sheet(0, sort, 6);
                for (int k = 0; k < 6; k++) x.put(0, k, text.charAt(k));
                x.put(0, place, text.charAt(place) + 256);
                is("2 a code of more than a byte", x.net(0, sort, 0, 6), -100 - place);
            }
        }
        for (int place = 0; place < 6; place++) {
            for (int code : new int[] {MIN, MIN + 47, MIN + 48, MIN + 49, MAX, MAX - 1, 65536 + text.charAt(place), -1}) {
                LaneWaits x = new LaneWaits();
                x.sheet(0, 2, 6);
                for (int k = 0; k < 6; k++) x.put(0, k, text.charAt(k));
                x.put(0, place, code);
                is("2 a code far off", x.net(0, 2, 0, 6), -100 - place);
            }
        }
    }

    private static void codesAreCutAsTheyAreLaid() {
        String text = "n2;0>1";
        for (int sort = 0; sort <= 1; sort++) {
            LaneWaits x = new LaneWaits();
            x.sheet(0, sort, 6);
            for (int k = 0; k < 6; k++) x.put(0, k, text.charAt(k) + (sort == 0 ? 256 : 65536));
            is("7 what comes to a cell is cut, so it is a text", x.net(0, sort, 0, 6), 1);
        }
    }

    private static LaneWaits used() {
        LaneWaits x = Due.of("n3;0>1*2;1>2;2>0");
        x.rule(2);
        x.bar(0, 1, 1);
        x.bar(1, 2, 1);
        x.send(0, 0, 1);
        x.send(2, 0, 2);
        x.ticks(7);
        x.send(1, 0, 1);
        x.stamp(0);
        x.sheet(2, 1, 2);
        x.put(2, 1, -5);
        is("1 used: loads", x.many(2), 3);
        is("1 used: in lanes", x.many(3), 2);
        return x;
    }

    private static void takenMakesLoadsAnew() {
        LaneWaits x = used();
        is("1 a TEXT that is taken", Due.take(x, "n3;0>1*2;1>2;2>0"), 3);
        is("1 no LOADS", x.many(2), 0);
        is("1 none in LANES", x.many(3), 0);
        is("1 none frozen", x.frozen(), 0);
        is("1 no LOAD 0", x.ofLoad(0, 0), -1);
        is("1 nothing in lane 0", x.ofLane(0, 3), 0);
        is("1 no first one there", x.ofLane(0, 10), -2);
        is("1 the next is number 0", x.send(1, 0, 1), 0);
        is("1 it is at the first place", x.ofLane(0, 10), 0);
        is("1 it was in one LANE", x.ofLoad(0, 4), 1);
        is("1 it is not HOME", x.ofLoad(0, 5), NONE);
    }

    private static void takenBarsNoTurn() {
        LaneWaits x = used();
        is("1 barred", x.many(4), 2);
        Due.take(x, "n3;0>1*2;1>2;2>0");
        is("1 no TURN is BARRED", x.many(4), 0);
        is("1 the TURN is open", x.may(0, 2), 2);
        is("1 it was not", x.bar(0, 1, 0), 0);
    }

    private static void takenSetsTheTick() {
        LaneWaits x = used();
        is("1 ticks", x.many(5), 7);
        Due.take(x, "n2;0>1");
        is("1 TICK 0", x.many(5), 0);
        x.send(0, 0, 1);
        x.ticks(1);
        is("1 HOME in TICK 0", x.ofLoad(0, 5), 0);
    }

    private static void takenLeavesTheRest() {
        LaneWaits x = used();
        Due.take(x, "n2;0>1");
        is("1 the RULE stays", x.rule(0), 2);
        is("1 TRACE is not told of", x.trace(), 4);
        is("1 SHEETS are not told of", x.cell(2, 1, 1), -5);
        is("1 the text itself stays", x.cell(0, 0, 0), 'n');
        LaneWaits y = new LaneWaits();
        y.rule(1);
        Due.take(y, "n2;0>1;0>1");
        is("1 a RULE ahead of the first NET stays", y.out(0, 1), 1);
    }

    private static void far() {
        LaneWaits x = Due.of("n6;0>1;1>2;2>3;3>4;4>5");
        for (int a = 0; a < 6; a++) {
            for (int b = 0; b < 6; b++) is("4 FAR of " + a + ", " + b, x.far(a, b), b >= a ? b - a : NONE);
        }
        LaneWaits y = Due.of("n6;0>1;1>2;2>3;3>4;4>5;5>0;0>5");
        is("4 the fewest, not the first", y.far(0, 5), 1);
        is("4 the fewest, round", y.far(1, 0), 5);
        Due.take(y, "n2;1>0");
        is("4 of the new net: none", y.far(0, 1), NONE);
        is("4 of the new net: one", y.far(1, 0), 1);
        is("4 of the new net: no such node", y.far(2, 0), -1);
    }
}
