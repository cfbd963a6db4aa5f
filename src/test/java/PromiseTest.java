import java.math.BigInteger;

/** Each promise by itself: ordinary inputs, the edges that the document names, and wrong inputs. */
public final class PromiseTest {
    private static final int UNKNOWN = TimeFlood.UNKNOWN, BAD = TimeFlood.BAD, LATE = TimeFlood.LATE,
            FULL = TimeFlood.FULL, NONE = TimeFlood.NONE;
    private static final int MIN = Integer.MIN_VALUE, MAX = Integer.MAX_VALUE;

    private static final String PAIR = Given.PAIR, SHY = Given.SHY, GAIN = Given.GAIN, PATIENT = Given.PATIENT,
            LINE = Given.LINE, TRIANGLE = Given.TRIANGLE;

    private PromiseTest() {
    }

    public static void main(String[] args) {
        newObject();
        write();
        wipe();
        fault();
        faultOfItems();
        net();
        about();
        nodeValues();
        estimates();
        stamp();
        link();
        periodOfPair();
        periodErrors();
        guards();
        numbers();
        staleNumbers();
        ownRootAgain();
        ages();
        inTimeEdges();
        nearEdges();
        turn();
        power();
        drift();
        undo();
        ahead();
        agree();
        judge();
        judgeForms();
        see();
        which();
        whichAfterNet();
        share();
        chance();
        seedAndDrawn();
        slots();
        Due.end();
    }

    private static void due(String what, long got, long want) {
        Due.due(what, got, want);
    }

    private static void newObject() {
        TimeFlood x = new TimeFlood();
        int[] first = {0, 0, 8, 1, 0, 0, 0, 0, 0, 0, 1, 0, 0, 0};
        for (int what = 0; what <= 13; what++) {
            due("new: about(" + what + ")", x.about(what), first[what]);
        }
        due("new: node", x.node(0, 0), UNKNOWN);
        due("new: link", x.link(0, 0), UNKNOWN);
        due("new: fault", x.fault(), 0);
        due("new: undo", x.undo(), LATE);
        due("new: again(0)", x.again(0), LATE);
        due("new: again(1)", x.again(1), LATE);
        due("new: seed", x.seed(3L), 0);
        due("new: which", x.which(), 0);
        due("new: agree", x.agree(), 0);
        due("new: unsee", x.unsee(), 0);
        due("new: wipe", x.wipe(), 0);
    }

    private static void write() {
        TimeFlood x = new TimeFlood();
        due("write(0)", x.write(0), 1);
        due("write(255)", x.write(255), 2);
        due("write(-1)", x.write(-1), BAD);
        due("write(256)", x.write(256), BAD);
        due("write(MIN)", x.write(MIN), BAD);
        due("write(MAX)", x.write(MAX), BAD);
        due("length after errors", x.about(13), 2);
        for (int i = 3; i <= 60; i++) {
            due("write to " + i, x.write('F'), i);
        }
        due("write to a full text", x.write('F'), FULL);
        due("BAD before FULL", x.write(256), BAD);
        due("full length", x.about(13), 60);
        // Letters must not be cut to fewer bits on the way.
        x = Given.typed(PAIR.substring(0, 5));
        x.write('n' + 128);
        due("fault of a high letter", x.fault(), 5);
    }

    private static void wipe() {
        TimeFlood x = Given.typed(PAIR);
        due("net", x.net(), 2);
        due("wipe", x.wipe(), 16);
        due("wipe again", x.wipe(), 0);
        due("length", x.about(13), 0);
        due("fault after wipe", x.fault(), 0);
        due("the network stays", x.about(0), 2);
        due("net after wipe", x.net(), LATE);
        due("write after wipe", x.write(70), 1);
        due("fault after write", x.fault(), 1);
    }

    private static void faultIs(String text, int want) {
        due("fault of " + text, Given.typed(text).fault(), want);
    }

    private static void fault() {
        faultIs("", 0);
        faultIs("f", 0);
        faultIs("Fn", 1);
        faultIs("F", 1);
        faultIs("F0", 2);
        faultIs("F4", 1);
        faultIs("F07", 2);
        faultIs("F08", 3);
        faultIs("F09", 3);
        faultIs("F10", 3);
        faultIs("F29", 3);
        faultIs("F30", 3);
        faultIs("F32", 3);
        faultIs("F33", 2);
        faultIs("F320", 3);
        faultIs("F321", 4);
        faultIs("F329", 4);
        faultIs("F32 ", 3);
        faultIs("F3210", NONE);
        faultIs("F3219", NONE);
        faultIs("F321:", 4);
        faultIs("F321/", 4);
        faultIs("F32100", 5);
        faultIs("F3210 ", 5);
        faultIs(" F3210", 0);
        faultIs("F3210N000", 5);
        faultIs("F3210F3210", 5);
    }

    private static void faultOfItems() {
        faultIs("F3210n", 6);
        faultIs("F3210n9", 7);
        faultIs("F3210n96", 8);
        faultIs("F3210n963", NONE);
        faultIs("F3210n964", 8);
        faultIs("F3210n959", NONE);
        faultIs("F3210n97", 7);
        faultIs("F3210na", 6);
        faultIs("F3210n000n000", NONE);
        faultIs("F3210k", 5);
        faultIs("F3210n000k", 9);
        faultIs("F3210n000n000k", 14);
        faultIs("F3210n000n000k2", 14);
        faultIs("F3210n000n000kk", 14);
        faultIs("F3210n000n000k0", 15);
        faultIs("F3210n000n000k00", 15);
        faultIs("F3210n000n000k02", 15);
        faultIs("F3210n000n000k01", NONE);
        faultIs("F3210n000n000k10", NONE);
        faultIs("F3210n000n000k01k", 16);
        faultIs("F3210n000n000k01n000k", 21);
        faultIs("F3210n000n000n000k01k12k", 24);
        faultIs("F3210n000n000n000k01k12k1", 24);
        faultIs("F3210n000n000n000k01k12k01", 25);
        faultIs("F3210n000n000n000k10k12k21", 25);
        faultIs("F3210n000n000n000k10k12k20", NONE);
        faultIs("F3210n000n000n000k10k12k20k", 26);
        faultIs("F3210n000n000k01n000k12", NONE);
        faultIs("F3210n000n000k02n000", 15);
        String five = "F3210n000n000n000n000n000";
        faultIs(five, NONE);
        faultIs(five + "n", 25);
        faultIs(five + "k01k02k03k04k12k13k14", NONE);
        faultIs(five + "k01k02k03k04k12k13k14k", 46);
        faultIs(five + "k01k02k03k04k0", 38);
        faultIs(five + "k01k02k03k04k40", 39);
        faultIs(five + "k01k02k03k04k12k13n", 43);
        faultIs(five + "k45", 27);
        StringBuilder full = new StringBuilder(five);
        while (full.length() < 60) {
            full.append(' ');
        }
        faultIs(full.toString(), 25);
    }

    private static void net() {
        TimeFlood x = Given.read(GAIN);
        x.period(5);
        x.turn(0);
        x.power(1);
        x.drift(0, 5);
        x.keep(0);
        x.see(1, 3, 0);
        x.seed(77L);
        x.write('n');
        due("net of a faulty text", x.net(), LATE);
        due("time after LATE", x.about(5), 80);
        due("undoable after LATE", x.about(11), 4);
        due("the slot after LATE", x.again(0), 80);
        x.wipe();
        Given.type(x, "F2034n563n010k10");
        x.period(1);
        due("undoable before net", x.about(11), 1);
        due("down before net", x.about(9), 1);
        due("net", x.net(), 2);
        int[] want = {2, 1, 20, 3, 4, 0, 3, 0, 0, 0, 0, 0, 1, 16};
        for (int what = 0; what <= 13; what++) {
            due("after net: about(" + what + ")", x.about(what), want[what]);
        }
        int[] node = {5, 63, 1008, 1, NONE, 0, 0, 0, 0, NONE, NONE};
        for (int what = 0; what <= 10; what++) {
            due("after net: node(0, " + what + ")", x.node(0, what), node[what]);
        }
        due("undo after net", x.undo(), LATE);
        due("again after net", x.again(0), LATE);
        due("seed after net", x.seed(0L), 77);
        due("observations after net", x.unsee(), 1);
        x.period(7);
        x.drift(0, -4);
        due("net once more", x.net(), 2);
        due("time once more", x.about(5), 0);
        due("drift once more", x.node(0, 0), 5);
        due("root once more", x.node(0, 4), NONE);
        due("number once more", x.node(0, 5), 0);
        Given.reread(x, "F3290");
        due("no nodes", x.about(0), 0);
        due("no links", x.about(1), 0);
        due("none on", x.about(6), 0);
        due("united without nodes", x.about(10), 1);
        due("time passes without nodes", x.period(3), 0);
        due("the time", x.about(5), 96);
    }

    private static void about() {
        TimeFlood x = Given.read(SHY);
        due("about(-1)", x.about(-1), BAD);
        due("about(14)", x.about(14), BAD);
        due("about(MIN)", x.about(MIN), BAD);
        due("about(MAX)", x.about(MAX), BAD);
        due("nodes", x.about(0), 2);
        due("links", x.about(1), 1);
        due("L", x.about(2), 8);
        due("patience", x.about(3), 1);
        due("shyness", x.about(4), 2);
        due("not united without roots", x.about(10), 0);
        x.period(2);
        due("time", x.about(5), 16);
        due("on", x.about(6), 3);
        due("own roots", x.about(7), 3);
        due("in time", x.about(8), 3);
        due("not united with two roots", x.about(10), 0);
        x.period(2);
        due("own roots then", x.about(7), 1);
        due("united", x.about(10), 1);
        x.turn(0);
        due("down", x.about(9), 1);
        x.power(0);
        due("on then", x.about(6), 2);
        due("a switched-off root is no own root", x.about(7), 0);
        due("a switched-off node is not in time", x.about(8), 2);
        due("united under a root that is off", x.about(10), 1);
        x.power(1);
        due("united if all are off", x.about(10), 1);
        due("acts", x.about(11), 5);
        x.see(0, 0, NONE);
        due("observations", x.about(12), 1);
        due("length", x.about(13), 16);
        x.power(0);
        due("not united again", x.about(10), 0);
        x = Given.read(LINE);
        x.turn(1);
        due("the set of down links", x.about(9), 2);
    }

    private static void nodeValues() {
        TimeFlood x = Given.read("F3211n063n901n400k01k12");
        due("node(-1, 0)", x.node(-1, 0), UNKNOWN);
        due("node(3, 0)", x.node(3, 0), UNKNOWN);
        due("node(MAX, 0)", x.node(MAX, 0), UNKNOWN);
        due("UNKNOWN before BAD", x.node(3, 11), UNKNOWN);
        due("node(0, -1)", x.node(0, -1), BAD);
        due("node(0, 11)", x.node(0, 11), BAD);
        due("drift of 0", x.node(0, 0), 0);
        due("drift of 1", x.node(1, 0), 9);
        due("start of 0", x.node(0, 1), 63);
        due("clock of 0 at 0", x.node(0, 2), 1008);
        due("clock of 1 at 0", x.node(1, 2), 16);
        x.period(1);
        // 1008 + 32 - 2 = 1038 and 16 + 32 + (160 / 64, rounded down)
        due("clock of 0 at 32", x.node(0, 2), 14);
        due("clock of 1 at 32", x.node(1, 2), 50);
        due("heart", x.node(0, 6), 1);
        due("no root yet", x.node(0, 4), NONE);
        due("no estimate yet", x.node(0, 9), NONE);
        due("no miss yet", x.node(0, 10), NONE);
        x.period(1);
        due("root", x.node(0, 4), 0);
        due("number", x.node(0, 5), 1);
        due("heart of a new root", x.node(0, 6), 0);
        due("guard", x.node(0, 7), 1);
        due("stamps of a new root", x.node(0, 8), 0);
        due("estimate of a root", x.node(0, 9), 1008 + 64 - 4 - 1024);
        due("miss of a root", x.node(0, 10), 1000);
        x.power(1);
        int[] off = {9, 1, 85, 0, NONE, NONE, NONE, NONE, NONE, NONE, NONE};
        for (int what = 0; what <= 10; what++) {
            due("off: node(1, " + what + ")", x.node(1, what), off[what]);
        }
        due("off: BAD before NONE", x.node(1, 11), BAD);
        x = Given.read("F0810n300");
        x.period(1);
        // -8 / 64 rounded down is -1, not 0
        due("the clock is rounded down", x.node(0, 2), 7);
    }

    private static void estimates() {
        TimeFlood x = Given.read(GAIN);
        due("in time at 32", x.period(2), 2);
        due("estimate by one stamp", x.node(1, 9), 32);
        x.turn(0);
        x.period(1);
        // clock 211, stamp (194, 32): 211 + 32 - 194 = 49
        due("estimate by one stamp, later", x.node(1, 9), 49);
        due("miss", x.node(1, 10), 1001);
        x = Given.read(GAIN);
        x.period(4);
        due("clock", x.node(1, 2), 228);
        due("estimate by three stamps", x.node(1, 9), 64);
        x.turn(0);
        x.period(1);
        // B = -102, E = 1734, near = 17: z = -5202 / 5202 = -1; 245 + 64 - 228 - 1
        due("estimate by regression", x.node(1, 9), 80);
        due("miss by regression", x.node(1, 10), 1000);
        x.drift(1, 5);
        // the clock jumps from 245 to 246: near = 18, z = -5304 / 5202 rounded down = -2
        due("clock after a jump", x.node(1, 2), 246);
        due("estimate rounded down", x.node(1, 9), 80);
        x.drift(1, -4);
        // clock 235: near = 7, z = (-5202 + 5202 - 306 * 7) / 5202, rounded down, = -1
        due("clock after a jump back", x.node(1, 2), 235);
        due("estimate with z from -1 to 0", x.node(1, 9), 235 + 64 - 228 - 1);
        due("miss below", x.node(1, 10), 1000 + 70 - 80);
        sameClocks();
    }

    /** Two stamps of one period: E is 0, and the mean of y is rounded down. */
    private static void sameClocks() {
        // Node 3 hears node 1, which lags, and then node 2 in one period.
        TimeFlood x = Given.read("F3210n400n900n400n400k02k21k13k23");
        x.turn(2);
        x.turn(3);
        x.period(20);
        due("node 3 by itself", x.node(3, 4), 3);
        int late = x.node(1, 5);
        int soon = x.node(2, 5);
        due("node 1 lags", soon - late, 1);
        x.turn(2);
        x.turn(3);
        x.period(1);
        due("two stamps at once", x.node(3, 8), 2);
        due("clocks", x.stamp(3, 0, 0), x.stamp(3, 1, 0));
        due("number", x.node(3, 5), soon);
        due("mark by node 1", x.stamp(3, 0, 1), 671);
        due("mark by node 2", x.stamp(3, 1, 1), 672);
        // 672 + (-1 / 2, rounded down)
        due("estimate with E = 0", x.node(3, 9), 671);
    }

    private static void stamp() {
        TimeFlood x = Given.read(PAIR);
        due("stamp(2, 0, 0)", x.stamp(2, 0, 0), UNKNOWN);
        due("stamp(-1, 0, 0)", x.stamp(-1, 0, 0), UNKNOWN);
        due("UNKNOWN before BAD", x.stamp(2, 0, 3), UNKNOWN);
        due("stamp(1, 0, 3)", x.stamp(1, 0, 3), BAD);
        due("stamp(1, 0, -1)", x.stamp(1, 0, -1), BAD);
        due("BAD before NONE", x.stamp(1, 9, 3), BAD);
        due("none yet", x.stamp(1, 0, 0), NONE);
        x.period(3);
        int[][] want = {{176, 16, 1}, {184, 24, 0}};
        for (int i = 0; i < 2; i++) {
            for (int what = 0; what <= 2; what++) {
                due("stamp(1, " + i + ", " + what + ")", x.stamp(1, i, what), want[i][what]);
            }
        }
        due("stamp(1, 2, 0)", x.stamp(1, 2, 0), NONE);
        due("stamp(1, -1, 0)", x.stamp(1, -1, 0), NONE);
        due("stamp(1, 4, 0)", x.stamp(1, 4, 0), NONE);
        due("stamp(1, MIN, 0)", x.stamp(1, MIN, 0), NONE);
        due("stamp(1, MAX, 0)", x.stamp(1, MAX, 0), NONE);
        due("stamp of a root", x.stamp(0, 0, 0), NONE);
        x.period(3);
        due("the fifth drives out the first", x.stamp(1, 0, 0), 184);
        due("the latest", x.stamp(1, 3, 0), 208);
        due("the oldest age", x.stamp(1, 0, 2), 3);
        x.power(1);
        due("stamp of a node that is off", x.stamp(1, 0, 0), NONE);
        due("BAD of a node that is off", x.stamp(1, 0, 3), BAD);
        x.power(1);
        due("stamp of a node that is on again", x.stamp(1, 0, 0), NONE);
    }

    private static void link() {
        TimeFlood x = Given.read("F0810n400n400n400k10k21");
        due("link(-1, 0)", x.link(-1, 0), UNKNOWN);
        due("link(2, 0)", x.link(2, 0), UNKNOWN);
        due("UNKNOWN before BAD", x.link(2, 3), UNKNOWN);
        due("link(0, 3)", x.link(0, 3), BAD);
        due("link(0, -1)", x.link(0, -1), BAD);
        due("lower of 0", x.link(0, 0), 0);
        due("higher of 0", x.link(0, 1), 1);
        due("lower of 1", x.link(1, 0), 1);
        due("higher of 1", x.link(1, 1), 2);
        due("up", x.link(1, 2), 0);
        x.turn(1);
        due("down", x.link(1, 2), 1);
        due("the other", x.link(0, 2), 0);
    }

    private static void periodErrors() {
        TimeFlood x = Given.read(PAIR);
        due("period(0)", x.period(0), BAD);
        due("period(100)", x.period(100), BAD);
        due("period(-1)", x.period(-1), BAD);
        due("period(MAX)", x.period(MAX), BAD);
        due("time after errors", x.about(5), 0);
        due("acts after errors", x.about(11), 0);
        due("period(99)", x.period(99), 2);
        due("time", x.about(5), 792);
        due("one act", x.about(11), 1);
    }

    private static void periodOfPair() {
        TimeFlood x = Given.read(PAIR);
        due("period 1", x.period(1), 0);
        due("heart 1", x.node(1, 6), 1);
        due("period 2", x.period(1), 2);
        due("node 0 leads", x.node(0, 4), 0);
        due("node 1 follows", x.node(1, 4), 0);
        due("number 1", x.node(1, 5), 1);
        due("heart 0", x.node(1, 6), 0);
        due("estimate", x.node(1, 9), 16);
        x.period(1);
        due("number 2", x.node(1, 5), 2);
        due("stamps", x.node(1, 8), 2);
        // In a line node 2 hears only what node 1 sends, which is not before node 1 has 2 stamps.
        x = Given.read(LINE);
        x.period(2);
        due("line, period 2: node 1", x.node(1, 4), 0);
        due("line, period 2: node 2", x.node(2, 4), 1);
        x.period(1);
        due("line, period 3: node 2", x.node(2, 4), 1);
        due("line, period 3: heart", x.node(2, 6), 1);
        due("line, period 3: stamps of node 1", x.node(1, 8), 2);
        x.period(1);
        due("line, period 4: node 2", x.node(2, 4), 0);
        due("line, period 4: number as node 1 had it", x.node(2, 5), 2);
        due("line, period 4: number of node 1", x.node(1, 5), 3);
        due("line, period 4: stamps of node 2", x.node(2, 8), 1);
        // A new root empties the table of the old one.
        x = Given.read("F0820n400n400n400k01k12");
        x.turn(0);
        x.period(8);
        due("torn: node 2", x.node(2, 4), 1);
        due("torn: stamps", x.node(2, 8), 4);
        x.turn(0);
        x.period(3);
        due("whole: node 2", x.node(2, 4), 0);
        due("whole: stamps", x.node(2, 8), 1);
        // Over a link that is down, and to or from a node that is off, nothing goes.
        x = Given.read(PAIR);
        x.turn(0);
        x.period(9);
        due("down link: node 1", x.node(1, 4), 1);
        x = Given.read(LINE);
        x.power(1);
        x.period(9);
        due("off between: node 2", x.node(2, 4), 2);
        x.power(1);
        due("off node kept its clock only", x.node(1, 2), 72);
    }

    private static void guards() {
        TimeFlood x = Given.read(SHY);
        int[] guard = {2, 1, 0};
        int[] root = {1, 1, 0};
        x.period(1);
        due("guard before", x.node(1, 7), 0);
        for (int i = 0; i < 3; i++) {
            x.period(1);
            due("guard of node 1, " + i, x.node(1, 7), guard[i]);
            due("root of node 1, " + i, x.node(1, 4), root[i]);
            due("guard of node 0, " + i, x.node(0, 7), guard[i]);
        }
        due("number as the root's", x.node(1, 5), 3);
        x.period(5);
        due("guard stays 0", x.node(0, 7), 0);
    }

    private static void numbers() {
        TimeFlood x = Given.read(PAIR);
        x.period(64);
        due("number of the root", x.node(0, 5), 63);
        due("number of the follower", x.node(1, 5), 63);
        x.period(1);
        due("63 becomes 0", x.node(0, 5), 0);
        due("0 is news after 63", x.node(1, 5), 0);
        due("heart of the follower", x.node(1, 6), 0);
        // A node that claims the root goes on from the number it had, also from 63.
        x = Given.read(PAIR);
        x.period(64);
        x.turn(0);
        x.period(1);
        due("waits", x.node(1, 4), 0);
        x.period(1);
        due("claims", x.node(1, 4), 1);
        due("number after 63", x.node(1, 5), 0);
        due("table of a new root", x.node(1, 8), 0);
    }

    /** News is 1 to 31 ahead, modulo 64: root 0 starts anew, while node 1 still has an old number. */
    private static void staleNumbers() {
        for (int k = 34; k <= 35; k++) {
            TimeFlood x = Given.read("F0810n400n400n400k02k21k01");
            x.turn(2);
            x.period(k);
            due("number of node 1", x.node(1, 5), k - 2);
            x.turn(0);
            x.power(0);
            x.power(0);
            x.period(1);
            due("node 2 feeds node 1", x.node(1, 5), k - 1);
            due("heart of node 1", x.node(1, 6), 0);
            x.turn(2);
            x.period(1);
            due("node 0 leads anew", x.node(0, 5), 1);
            due("root of node 1", x.node(1, 4), 0);
            due(k - 1 + " to 1", x.node(1, 5), k == 35 ? 1 : 33);
            due("heart after " + (k - 1) + " to 1", x.node(1, 6), k == 35 ? 0 : 1);
        }
    }

    private static void ownRootAgain() {
        TimeFlood x = Given.read(PAIR);
        x.period(5);
        x.power(0);
        x.power(0);
        due("restarted", x.node(0, 4), NONE);
        x.period(1);
        due("its own root by a follower's word", x.node(0, 4), 0);
        due("own roots", x.about(7), 1);
        due("number", x.node(0, 5), 4);
        due("guard", x.node(0, 7), 0);
        due("a stamp", x.node(0, 8), 1);
        due("its clock", x.stamp(0, 0, 0), 48);
        due("its mark", x.stamp(0, 0, 1), 48);
        x.period(1);
        due("number goes on", x.node(0, 5), 5);
        due("the stamp ages", x.stamp(0, 0, 2), 1);
        due("a root stores no news of itself", x.node(0, 8), 1);
        due("the follower hears it", x.node(1, 5), 5);
        x.period(8);
        due("age 9", x.stamp(0, 0, 2), 9);
        x.period(1);
        due("age 10 is gone", x.node(0, 8), 0);
    }

    private static void ages() {
        TimeFlood x = Given.read(PATIENT);
        x.period(9);
        due("patience 9: no root", x.node(0, 4), NONE);
        due("patience 9: heart", x.node(0, 6), 9);
        x.period(1);
        due("patience 9: root", x.node(0, 4), 0);
        x.period(4);
        due("4 stamps", x.node(1, 8), 4);
        x.turn(0);
        int[] left = {4, 4, 4, 4, 4, 4, 3, 2, 1, 0};
        for (int i = 0; i < 10; i++) {
            x.period(1);
            due("stamps after " + (i + 1), x.node(1, 8), left[i]);
            due("root after " + (i + 1), x.node(1, 4), i < 9 ? 0 : 1);
        }
        x.undo();
        due("the last stamp", x.stamp(1, 0, 2), 9);
        due("heart", x.node(1, 6), 9);
    }

    /** With one stamp of time 320 and no link, the miss after k periods is k * drift / 2, rounded down. */
    private static void inTimeEdges() {
        int[][] cases = {{3, 2, 1003, 2}, {3, 3, 1004, 1}, {-3, 2, 997, 2}, {-3, 3, 995, 1},
            {4, 1, 1002, 2}, {4, 2, 1004, 1}, {-4, 2, 996, 1}, {5, 2, 1005, 1}};
        for (int[] c : cases) {
            TimeFlood x = Given.read("F3290n400n" + (c[0] + 4) + "00k01");
            x.period(10);
            x.turn(0);
            due("in time, drift " + c[0] + " after " + c[1], x.period(c[1]), c[3]);
            due("miss, drift " + c[0] + " after " + c[1], x.node(1, 10), c[2]);
            due("set, drift " + c[0] + " after " + c[1], x.about(8), c[3] == 2 ? 3 : 1);
        }
        TimeFlood x = Given.read("F3290n400n000k01");
        x.period(10);
        x.turn(0);
        x.period(4);
        due("miss of -8", x.node(1, 10), 992);
        x.power(0);
        due("miss of a root that is off", x.node(1, 10), 992);
        // A miss of -9 is a miss and not NONE.
        x = Given.read("F1890n400n000k01");
        x.period(10);
        x.turn(0);
        x.period(8);
        // floor(-324 * 4 / 64) + 180 * 4 / 64 = -21 + 12 and 720 / 64 = 11.25
        due("miss of -9", x.node(1, 10), 991);
        due("-9 is not in time", x.about(8), 1);
    }

    /** near() goes from -512 to 511. */
    private static void nearEdges() {
        TimeFlood x = Given.read("F3210n400n400k01");
        x.turn(0);
        x.period(99);
        x.period(99);
        x.turn(0);
        x.period(58);
        x.drift(0, 4);
        due("clock 512 ahead", x.node(0, 2), 512);
        due("miss of -512", x.node(1, 10), 488);
        x.drift(0, -4);
        due("miss of -512 again", x.node(1, 10), 488);
        x = Given.read("F1610n400n400k01");
        for (int i = 0; i < 5; i++) {
            x.period(99);
        }
        x.period(16);
        x.drift(0, 4);
        due("miss of -511", x.node(1, 10), 489);
        x.drift(0, -4);
        due("miss of 511", x.node(1, 10), 1511);
    }

    private static void turn() {
        TimeFlood x = Given.read(LINE);
        due("turn(-1)", x.turn(-1), UNKNOWN);
        due("turn(2)", x.turn(2), UNKNOWN);
        due("turn(MIN)", x.turn(MIN), UNKNOWN);
        due("acts after errors", x.about(11), 0);
        due("turn(1)", x.turn(1), 1);
        due("set", x.about(9), 2);
        due("turn(0)", x.turn(0), 1);
        due("turn(1) back", x.turn(1), 0);
        due("set then", x.about(9), 1);
        due("acts", x.about(11), 3);
    }

    private static void power() {
        TimeFlood x = Given.read(SHY);
        due("power(-1)", x.power(-1), UNKNOWN);
        due("power(2)", x.power(2), UNKNOWN);
        due("acts after errors", x.about(11), 0);
        x.period(3);
        due("guard before", x.node(1, 7), 1);
        due("off", x.power(1), 0);
        due("shown off", x.node(1, 3), 0);
        due("on", x.power(1), 1);
        int[] want = {4, 10, 184, 1, NONE, 0, 0, 0, 0, NONE, NONE};
        for (int what = 0; what <= 10; what++) {
            due("on again: node(1, " + what + ")", x.node(1, what), want[what]);
        }
        x.turn(0);
        x.period(1);
        due("heart before", x.node(1, 6), 1);
        x.power(1);
        x.drift(1, 3);
        x.power(1);
        due("no heart", x.node(1, 6), 0);
        due("the drift stays", x.node(1, 0), 7);
        due("acts", x.about(11), 8);
        x.power(0);
        x.period(4);
        due("off nodes do nothing", x.node(0, 6), NONE);
        x.power(0);
        due("heart of a node that was off", x.node(0, 6), 0);
    }

    private static void drift() {
        TimeFlood x = Given.read("F3210n460n401");
        x.period(4);
        due("drift(-1, 0)", x.drift(-1, 0), UNKNOWN);
        due("drift(2, 0)", x.drift(2, 0), UNKNOWN);
        due("UNKNOWN before BAD", x.drift(2, 6), UNKNOWN);
        due("drift(0, -5)", x.drift(0, -5), BAD);
        due("drift(0, 6)", x.drift(0, 6), BAD);
        due("acts after errors", x.about(11), 1);
        due("drift(0, 5)", x.drift(0, 5), 960 + 128 + 10 - 1024);
        due("drift(0, -4)", x.drift(0, -4), 960 + 128 - 8 - 1024);
        due("drift(1, 5)", x.drift(1, 5), 154);
        due("the same is an act", x.drift(1, 5), 154);
        due("value", x.node(1, 0), 9);
        due("start", x.node(1, 1), 1);
        due("acts", x.about(11), 5);
        x.power(1);
        due("drift of a node that is off", x.drift(1, 0), 144);
        due("its clock", x.node(1, 2), 144);
    }

    private static void undo() {
        TimeFlood x = Given.read(GAIN);
        due("nothing", x.undo(), LATE);
        x.period(7);
        x.turn(0);
        x.power(0);
        x.drift(1, -4);
        due("undo drift", x.undo(), 3);
        due("drift", x.node(1, 0), 8);
        due("undo power", x.undo(), 2);
        due("root of a node that was off", x.node(0, 4), 0);
        due("number of a node that was off", x.node(0, 5), 6);
        due("undo turn", x.undo(), 1);
        due("down", x.about(9), 0);
        due("undo period", x.undo(), 0);
        due("time", x.about(5), 0);
        due("root", x.node(1, 4), NONE);
        due("stamps", x.node(1, 8), 0);
        due("nothing more", x.undo(), LATE);
        for (int i = 1; i <= 20; i++) {
            x.period(i);
            due("acts after " + i, x.about(11), Math.min(i, 14));
        }
        for (int i = 13; i >= 0; i--) {
            due("undo to " + i, x.undo(), i);
            int n = i + 6;
            due("time at " + i, x.about(5), 16 * n * (n + 1) / 2);
        }
        due("the first six stay", x.undo(), LATE);
        due("time of the first six", x.about(5), 16 * 21);
        x.period(1);
        due("one more", x.undo(), 0);
        x.see(0, 1, 0);
        x.seed(9L);
        x.turn(0);
        x.undo();
        TimeFlood shy = Given.read(SHY);
        shy.period(3);
        shy.period(1);
        shy.undo();
        due("guard back", shy.node(1, 7), 1);
        due("undo keeps observations", x.about(12), 1);
        due("undo keeps the seed", x.seed(0L), 9);
    }

    private static void ahead() {
        TimeFlood x = Given.read(GAIN);
        due("ahead(0, 2, 2)", x.ahead(0, 2, 2), UNKNOWN);
        due("ahead(0, -1, 2)", x.ahead(0, -1, 2), UNKNOWN);
        due("UNKNOWN before BAD", x.ahead(100, 2, 1), UNKNOWN);
        due("ahead(-1, 0, 2)", x.ahead(-1, 0, 2), BAD);
        due("ahead(100, 0, 2)", x.ahead(100, 0, 2), BAD);
        due("ahead(0, 0, 1)", x.ahead(0, 0, 1), BAD);
        due("ahead(0, 0, 11)", x.ahead(0, 0, 11), BAD);
        due("clock now", x.ahead(0, 1, 2), 160);
        due("clock in 4", x.ahead(4, 1, 2), 228);
        due("clock in 99", x.ahead(99, 1, 2), (160 + 1584 + 99) % 1024);
        due("on", x.ahead(9, 1, 3), 1);
        due("root in 1", x.ahead(1, 1, 4), NONE);
        due("root in 2", x.ahead(2, 1, 4), 0);
        due("number in 5", x.ahead(5, 1, 5), 4);
        due("heart in 1", x.ahead(1, 1, 6), 1);
        due("guard in 2", x.ahead(2, 1, 7), 0);
        due("stamps in 4", x.ahead(4, 1, 8), 3);
        due("estimate in 4", x.ahead(4, 1, 9), 64);
        due("miss in 4", x.ahead(4, 1, 10), 1000);
        due("no miss in 1", x.ahead(1, 1, 10), NONE);
        due("time stays", x.about(5), 0);
        due("state stays", x.node(1, 6), 0);
        due("acts stay", x.about(11), 0);
        x.power(1);
        due("off: clock", x.ahead(1, 1, 2), 177);
        due("off: on", x.ahead(1, 1, 3), 0);
        due("off: root", x.ahead(3, 1, 4), NONE);
        due("off: miss", x.ahead(3, 1, 10), NONE);
    }

    private static void agree() {
        due("pair", Given.read(PAIR).agree(), 2);
        due("shy pair", Given.read(SHY).agree(), 4);
        due("patient pair", Given.read(PATIENT).agree(), 10);
        due("line", Given.read(LINE).agree(), 4);
        due("two apart", Given.read("F0810n400n400").agree(), NONE);
        due("one", Given.read("F0890n400").agree(), 10);
        due("no node", Given.read("F0810").agree(), 0);
        TimeFlood x = Given.read(LINE);
        x.period(3);
        due("line after 3", x.agree(), 1);
        due("time stays", x.about(5), 24);
        x.period(1);
        due("line after 4", x.agree(), 0);
        x.turn(0);
        x.period(2);
        due("torn, but node 1 takes the old root back from node 2", x.agree(), 0);
        x.period(2);
        due("torn", x.agree(), NONE);
        x.power(0);
        due("torn from a node that is off", x.agree(), 0);
        due("long", Given.read("F0819n400n400k01").agree(), 11);
    }

    private static void judge() {
        TimeFlood x = Given.read(PAIR);
        due("judge(0, 0)", x.judge(0, 0L), BAD);
        due("judge(5, 101)", x.judge(5, 101L), BAD);
        due("judge(-1, 0)", x.judge(-1, 0L), BAD);
        due("judge(1, -1)", x.judge(1, -1L), BAD);
        due("judge(1, 1000)", x.judge(1, 1000L), BAD);
        due("judge(1, 999)", x.judge(1, 999L), 0);
        due("judge(2, 1000000)", x.judge(2, 1000000L), BAD);
        due("judge(3, 10^9)", x.judge(3, 1000000000L), BAD);
        due("judge(4, 10^12)", x.judge(4, 1000000000000L), BAD);
        due("judge(4, 10^12 - 1)", x.judge(4, 999999999999L), 0);
        due("judge(4, MAX)", x.judge(4, Long.MAX_VALUE), BAD);
        due("judge(4, MIN)", x.judge(4, Long.MIN_VALUE), BAD);
        due("leading zeros are digits", x.judge(2, 102L), 0);
        due("0", x.judge(1, 0L), 0);
        due("2 periods, root, in time", x.judge(3, 102410501L), NONE);
        due("1 period, root", x.judge(2, 101410L), 1);
        due("stamps", x.judge(4, 103612101613L), NONE);
        due("stamps, wrong", x.judge(4, 103612101614L), 3);
        TimeFlood slow = Given.read(PATIENT);
        due("9 periods", slow.judge(2, 109500L), 1);
        due("10 periods", slow.judge(3, 110410611L), NONE);
        due("12 periods", slow.judge(3, 112410613L), NONE);
        due("the first of two wrong ones", x.judge(3, 103611614L), 1);
        due("turned", x.judge(3, 200109411L), NONE);
        due("turned twice", x.judge(4, 200200109411L), 3);
        due("switched off", x.judge(3, 300102411L), NONE);
        due("a node that is off has no root", x.judge(2, 300400L), 1);
        due("a node that is off has no stamps, not 0", x.judge(2, 301610L), 1);
        due("a node without stamps", x.judge(1, 610L), NONE);
        due("nothing changes", x.about(5) + x.about(9) + x.about(11), 0);
        x.period(4);
        due("now: root", x.judge(1, 410L), NONE);
        due("now: not itself", x.judge(1, 411L), 0);
        due("off is not in time", x.judge(2, 301501L), 1);
        due("off and on again", x.judge(3, 301301610L), NONE);
        due("its root off, still followed", x.judge(2, 300410L), NONE);
        due("nothing changes then", x.about(6), 3);
    }

    private static void judgeForms() {
        TimeFlood x = Given.read(PAIR);
        x.period(4);
        int[] wrong = {0, 1, 9, 99, 100, 201, 202, 209, 210, 290, 302, 310, 311, 390, 402, 412, 420, 421, 440,
            499, 502, 510, 511, 520, 620, 623, 614, 619, 601, 700, 710, 800, 900, 999};
        int[] right = {101, 110, 199, 200, 300, 301, 400, 410, 500, 501, 600, 613};
        for (int s : right) {
            due("judge(1, " + s + ")", x.judge(1, s), NONE);
        }
        for (int s : wrong) {
            due("judge(1, " + s + ")", x.judge(1, s), 0);
        }
        TimeFlood alone = Given.read("F0810n400");
        due("no links", alone.judge(1, 200L), 0);
        due("no node 1", alone.judge(1, 301L), 0);
        due("no root is not a node", alone.judge(1, 400L), 0);
        due("99 periods", alone.judge(2, 199500L), NONE);
    }

    private static void see() {
        TimeFlood x = Given.read(PAIR);
        due("see(2, 0, 0)", x.see(2, 0, 0), UNKNOWN);
        due("see(-1, 0, 0)", x.see(-1, 0, 0), UNKNOWN);
        due("UNKNOWN before BAD", x.see(2, 21, 7), UNKNOWN);
        due("see(0, -1, 0)", x.see(0, -1, 0), BAD);
        due("see(0, 21, 0)", x.see(0, 21, 0), BAD);
        due("see(0, 0, 2)", x.see(0, 0, 2), BAD);
        due("see(0, 0, -1)", x.see(0, 0, -1), BAD);
        due("see(0, 0, -8)", x.see(0, 0, -8), BAD);
        due("none after errors", x.about(12), 0);
        due("first", x.see(0, 0, NONE), 1);
        due("second", x.see(1, 20, 1), 2);
        for (int i = 3; i <= 6; i++) {
            due("observation " + i, x.see(0, 20, 0), i);
        }
        due("seventh", x.see(0, 20, 0), FULL);
        due("BAD before FULL", x.see(0, 21, 0), BAD);
        due("UNKNOWN before FULL", x.see(2, 0, 0), UNKNOWN);
        due("six", x.about(12), 6);
        due("unsee", x.unsee(), 6);
        due("none", x.about(12), 0);
        due("unsee again", x.unsee(), 0);
        due("all nodes explain nothing", x.which(), 3);
        due("first anew", x.see(1, 1, NONE), 1);
        due("no act", x.about(11), 0);
    }

    private static void which() {
        TimeFlood x = Given.read(LINE);
        due("nothing seen", x.which(), 7);
        x.see(0, 0, NONE);
        due("no roots at first", x.which(), 7);
        x.see(2, 2, 1);
        due("2 follows 1 at 2, unless 1 or 2 fails", x.which(), 1);
        x.see(2, 20, 1);
        due("2 still follows 1 at 20, if 0 fails", x.which(), 1);
        x.see(0, 20, NONE);
        due("0 has no root, as it is off", x.which(), 1);
        x.see(0, 20, 0);
        due("a contradiction", x.which(), 0);
        x.unsee();
        x.see(1, 3, NONE);
        due("node 1 is off", x.which(), 2);
        x.unsee();
        x.see(0, 12, 0);
        due("0 leads if it is on", x.which(), 6);
        x.power(2);
        due("only nodes that are on", x.which(), 2);
        x.unsee();
        due("only nodes that are on explain nothing", x.which(), 3);
        x.power(2);
        x.see(2, 12, 2);
        due("2 by itself", x.which(), 2);
        // Observations count from the state when which() is called.
        x.unsee();
        x.see(2, 0, 0);
        due("at first", x.which(), 0);
        x.period(4);
        due("after 4", x.which(), 3);
        due("nothing changes", x.about(6), 7);
        due("nothing changes in time", x.about(5), 32);
        x = Given.read("F0810");
        due("no nodes", x.which(), 0);
    }

    private static void whichAfterNet() {
        TimeFlood x = Given.read(LINE);
        x.see(2, 20, 0);
        x.see(2, 20, 1);
        Given.reread(x, PAIR);
        due("observations of a node that is gone", x.which(), 3);
        due("they are still there", x.about(12), 2);
        Given.reread(x, LINE);
        due("back again", x.which(), 0);
        x.unsee();
        x.see(0, 0, 2);
        Given.reread(x, PAIR);
        due("a root that is gone", x.which(), 0);
        x.unsee();
        due("without it", x.which(), 3);
        Given.reread(x, LINE);
        x.see(2, 0, 2);
        Given.reread(x, PAIR);
        due("both gone", x.which(), 3);
    }

    private static void shareIs(TimeFlood x, int node, int upper, int lower) {
        due("share(" + node + ", true)", x.share(node, true), upper);
        due("share(" + node + ", false)", x.share(node, false), lower);
    }

    private static void share() {
        TimeFlood x = Given.read(PAIR);
        due("share(2, true)", x.share(2, true), UNKNOWN);
        due("share(-1, false)", x.share(-1, false), UNKNOWN);
        shareIs(x, 0, 1, 1);
        shareIs(x, 1, 1, 1);
        x.power(1);
        due("off", x.share(1, true), LATE);
        due("off, lower", x.share(1, false), LATE);
        shareIs(x, 0, 1, 1);
        shareIs(Given.read(PATIENT), 1, 1, 1);
        x = Given.read("F1960n155n844n956n716k02k12k23");
        x.period(14);
        shareIs(x, 0, 17, 12);
        shareIs(x, 1, 11, 12);
        shareIs(x, 2, 3, 4);
        shareIs(x, 3, 11, 12);
        due("time stays", x.about(5), 14 * 19);
        due("nodes stay", x.about(6), 15);
        x = Given.read("F3080n513n128n127n533n344k34k01k13k02");
        x.period(25);
        shareIs(x, 1, 4, 3);
        shareIs(x, 3, 5, 6);
        shareIs(x, 4, 5, 6);
        // After 11 or 13 periods all three nodes would be in time.
        TimeFlood y = Given.read("F2988n417n915n033k01k12");
        y.period(6);
        for (int i = 0; i < 3; i++) {
            shareIs(y, i, 2, 3);
        }
        // All shares sum up to the nodes that are in time 12 periods from now.
        int sum = 0;
        for (int i = 0; i < 5; i++) {
            sum += x.share(i, true) * 6 / x.share(i, false);
        }
        x.period(12);
        due("the sum of shares", sum, 6 * Integer.bitCount(x.about(8)));
    }

    private static void chanceIs(TimeFlood x, int n, int p, int upper, int lower) {
        due("chance(" + n + ", " + p + ", true)", x.chance(n, p, true), upper);
        due("chance(" + n + ", " + p + ", false)", x.chance(n, p, false), lower);
    }

    private static void chance() {
        TimeFlood x = Given.read(PAIR);
        due("chance(-1, 0)", x.chance(-1, 0, true), BAD);
        due("chance(21, 0)", x.chance(21, 0, true), BAD);
        due("chance(0, -1)", x.chance(0, -1, false), BAD);
        due("chance(0, 11)", x.chance(0, 11, false), BAD);
        chanceIs(x, 0, 3, 0, 1);
        chanceIs(x, 1, 3, 0, 1);
        chanceIs(x, 2, 3, 7, 10);
        chanceIs(x, 20, 3, 7, 10);
        chanceIs(x, 2, 0, 1, 1);
        chanceIs(x, 2, 10, 0, 1);
        chanceIs(x, 2, 5, 1, 2);
        chanceIs(Given.read(SHY), 3, 5, 0, 1);
        chanceIs(Given.read(SHY), 4, 4, 3, 5);
        x = Given.read(LINE);
        chanceIs(x, 3, 5, 0, 1);
        chanceIs(x, 4, 5, 1, 4);
        chanceIs(x, 4, 2, 16, 25);
        x.turn(0);
        chanceIs(x, 4, 2, 0, 1);
        x.power(0);
        chanceIs(x, 4, 2, 4, 5);
        x.power(1);
        chanceIs(x, 4, 2, 1, 1);
        due("links stay", x.about(9), 1);
        // Two of three links will do.
        x = Given.read(TRIANGLE);
        chanceIs(x, 12, 5, 1, 2);
        chanceIs(x, 12, 1, 243, 250);
        chanceIs(x, 12, 7, 27, 125);
    }

    private static long next(long x) {
        BigInteger y = BigInteger.valueOf(x).multiply(new BigInteger("6364136223846793005"));
        return y.add(new BigInteger("1442695040888963407")).longValue();
    }

    private static boolean turns(long x) {
        return (x >>> 33) / 16 % 2 == 0;
    }

    private static void seedAndDrawn() {
        TimeFlood x = Given.read("F3290n400n900k01");
        due("first seed", x.seed(Long.MIN_VALUE), 0);
        due("second seed", x.seed(Long.MAX_VALUE), Long.MIN_VALUE);
        due("third seed", x.seed(-1L), Long.MAX_VALUE);
        due("drawn(0)", x.drawn(0), BAD);
        due("drawn(21)", x.drawn(21), BAD);
        due("drawn(-1)", x.drawn(-1), BAD);
        due("seed after errors", x.seed(5L), -1);
        due("drawn before any root", x.drawn(9), 0);
        due("drawn(1)", x.drawn(1), 0);
        long s = 5;
        for (int i = 0; i < 10; i++) {
            s = next(s);
        }
        due("seed after 10", x.seed(0L), s);
        x.period(10);
        // Only a link that goes down in the first period and stays down loses node 1: see inTimeEdges().
        int[] seen = new int[4];
        for (long seed = -40; seed <= 40; seed++) {
            boolean first = turns(next(seed));
            boolean second = turns(next(next(seed)));
            x.seed(seed);
            due("drawn(2) by " + seed, x.drawn(2), first && !second ? 3 : 4);
            due("seed then", x.seed(0L), next(next(seed)));
            seen[(first ? 1 : 0) + (second ? 2 : 0)]++;
        }
        due("all four cases", Math.min(Math.min(seen[0], seen[1]), Math.min(seen[2], seen[3])) > 0 ? 1 : 0, 1);
        due("time stays", x.about(5), 320);
        due("links stay", x.about(9), 0);
        due("acts stay", x.about(11), 1);
        TimeFlood alone = Given.read("F0810n400");
        alone.period(2);
        due("without links", alone.drawn(20), 20);
        due("the seed still moves", alone.seed(0L) == 0L ? 1 : 0, 0);
        due("an empty object", new TimeFlood().drawn(20), 0);
    }

    private static void slots() {
        TimeFlood x = Given.read(GAIN);
        due("keep(-1)", x.keep(-1), UNKNOWN);
        due("keep(2)", x.keep(2), UNKNOWN);
        due("again(-1)", x.again(-1), UNKNOWN);
        due("again(2)", x.again(2), UNKNOWN);
        due("again(0)", x.again(0), LATE);
        x.period(4);
        due("keep(1)", x.keep(1), 64);
        due("the other is empty", x.again(0), LATE);
        due("acts stay after keep", x.about(11), 1);
        x.turn(0);
        x.power(0);
        x.drift(1, -4);
        x.period(3);
        due("keep(0)", x.keep(0), 112);
        due("again(1)", x.again(1), 64);
        due("undo after again", x.undo(), LATE);
        due("acts", x.about(11), 0);
        due("time", x.about(5), 64);
        due("on", x.about(6), 3);
        due("links", x.about(9), 0);
        due("drift", x.node(1, 0), 8);
        due("stamps", x.node(1, 8), 3);
        due("stamp", x.stamp(1, 0, 0), 194);
        due("estimate", x.node(1, 9), 64);
        x.period(9);
        due("the slot keeps it", x.again(1), 64);
        due("stamps again", x.node(1, 8), 3);
        due("again(0) then", x.again(0), 112);
        due("on then", x.about(6), 2);
        due("links then", x.about(9), 1);
        due("drift then", x.node(1, 0), 0);
        x.see(0, 1, 0);
        x.seed(4L);
        due("keep in place", x.keep(1), 112);
        x.period(1);
        due("again in place", x.again(1), 112);
        due("observations stay", x.about(12), 1);
        due("seed stays", x.seed(0L), 4);
        x.period(2);
        x.undo();
        due("undo goes not into the slot", x.again(1), 112);
        due("net", x.net(), 2);
        due("again(0) after net", x.again(0), LATE);
        due("again(1) after net", x.again(1), LATE);
    }
}
