/** What can be read of the state: promises 6 to 9. */
final class ValueSentences {
    private static final int UNKNOWN = TimeFlood.UNKNOWN, BAD = TimeFlood.BAD, NONE = TimeFlood.NONE;
    private static final int[] FAR = {Integer.MIN_VALUE, Integer.MAX_VALUE};

    private ValueSentences() {
    }

    // ---- Promise 6: about

    @Says(in = "Promise 6", value = "0: nodes; 1: links; 2: L; 3: the patience; 4: the shyness; 5: the time")
    static void leastAndMostOfANetwork() {
        int[][] want = {{0, 0, 8, 1, 0, 8}, {5, 7, 32, 9, 9, 32}};
        String[] texts = {"F0810", "F3299" + Given.FULL_NET.substring(5)};
        for (int i = 0; i < 2; i++) {
            TimeFlood x = Given.read(texts[i]);
            x.period(1);
            for (int what = 0; what <= 5; what++) {
                Due.due(texts[i] + ": about(" + what + ")", x.about(what), want[i][what]);
            }
        }
    }

    @Says(in = "Promise 6", value = "6: the set of nodes that are on; 7: the set of nodes that are on and their "
            + "own roots; "
            + "8: the set of nodes that are in time")
    static void setsFromNoNodesToFive() {
        TimeFlood x = Given.read("F0810n400n400n400n400n400");
        int[] atFirst = {31, 0, 0};
        int[] after2 = {31, 31, 31};
        int[] without4 = {15, 15, 15};
        int[] allOff = {0, 0, 0};
        for (int set = 0; set < 3; set++) {
            Due.due("at first: about(" + (6 + set) + ")", x.about(6 + set), atFirst[set]);
        }
        x.period(2);
        for (int set = 0; set < 3; set++) {
            Due.due("after 2: about(" + (6 + set) + ")", x.about(6 + set), after2[set]);
        }
        x.power(4);
        for (int set = 0; set < 3; set++) {
            Due.due("without 4: about(" + (6 + set) + ")", x.about(6 + set), without4[set]);
        }
        for (int node = 0; node < 4; node++) {
            x.power(node);
        }
        for (int set = 0; set < 3; set++) {
            Due.due("all off: about(" + (6 + set) + ")", x.about(6 + set), allOff[set]);
        }
        x = Given.read(Given.STAR);
        x.period(2);
        Due.due("own roots of the star", x.about(7), 1);
        Due.due("in time", x.about(8), 31);
    }

    @Says(in = "Promise 6", value = "9: the set of links that are down")
    static void setsFromNoLinksToSeven() {
        TimeFlood x = Given.read(Given.FULL_NET);
        int down = 0;
        for (int link = 6; link >= 0; link--) {
            Due.due("before " + link, x.about(9), down);
            x.turn(link);
            down += 1 << link;
        }
        Due.due("all", x.about(9), 127);
    }

    @Says(in = "Promise 6", value = "10: 1 if the network is united, 0 if not")
    static void unitedOrNot() {
        TimeFlood x = Given.read(Given.PAIR);
        x.period(1);
        Due.due("after 1", x.about(10), 0);
        x.period(1);
        Due.due("after 2", x.about(10), 1);
    }

    @Says(in = "Promise 6", value = "11: acts that can be undone; 12: observations; 13: the length of the text")
    static void countsFrom0ToTheMost() {
        TimeFlood x = Given.read(Given.PAIR);
        for (int i = 0; i <= 15; i++) {
            Due.due("acts", x.about(11), Math.min(i, 14));
            x.turn(0);
        }
        for (int i = 0; i <= 7; i++) {
            Due.due("observations", x.about(12), Math.min(i, 6));
            x.see(0, 0, 0);
        }
        x.wipe();
        for (int i = 0; i <= 61; i++) {
            Due.due("length", x.about(13), Math.min(i, 60));
            x.write('F');
        }
    }

    @Says(in = "Promise 6", value = "BAD if what is not 0 to 13")
    static void aboutBeyond0And13() {
        TimeFlood x = Given.read(Given.PAIR);
        Due.due("about(-1)", x.about(-1), BAD);
        Due.due("about(0)", x.about(0), 2);
        Due.due("about(13)", x.about(13), 16);
        Due.due("about(14)", x.about(14), BAD);
        for (int what : FAR) {
            Due.due("about(" + what + ")", x.about(what), BAD);
        }
    }

    // ---- Promise 7: node

    @Says(in = "Promise 7", value = "0: its drift + 4; 1: its start; 2: its clock; 3: 1 if it is on, 0 if not")
    static void leastAndMostOfANode() {
        TimeFlood x = Given.read("F3210n000n963");
        x.period(2);
        int[][] want = {{0, 0, 60, 1}, {9, 63, 53, 1}};
        for (int node = 0; node < 2; node++) {
            for (int what = 0; what <= 3; what++) {
                Due.due("node(" + node + ", " + what + ")", x.node(node, what), want[node][what]);
            }
        }
    }

    @Says(in = "Promise 7", value = "4: its root (NONE if it has none); 5: its number; 6: its heart; 7: its guard; "
            + "8: the number of its stamps")
    static void aNodeWithoutAndWithARoot() {
        TimeFlood x = Given.read("F0813n400n410k01");
        int[][] want = {{NONE, 0, 0, 0, 0}, {NONE, 0, 1, 0, 0}, {1, 1, 0, 3, 0}, {1, 2, 0, 2, 0}, {1, 3, 0, 1, 0},
            {0, 4, 0, 0, 1}, {0, 5, 0, 0, 2}};
        for (int[] after : want) {
            for (int what = 4; what <= 8; what++) {
                Due.due("node(1, " + what + ") at " + x.about(5), x.node(1, what), after[what - 4]);
            }
            x.period(1);
        }
    }

    @Says(in = "Promise 7", value = "9: its estimate (NONE if it has none); 10: its miss + 1000 (NONE if it has none)")
    static void aMissOfMinus9IsNotNone() {
        TimeFlood x = Given.read("F1890n400n000k01");
        Due.due("no estimate", x.node(1, 9), NONE);
        Due.due("no miss", x.node(1, 10), NONE);
        x.period(10);
        Due.due("estimate", x.node(1, 9), 180);
        Due.due("miss", x.node(1, 10), 1000);
        x.turn(0);
        x.period(8);
        // The stamp has the clock 180 - 12, now it is 324 - 21, so that the estimate is 324 - 9.
        Due.due("estimate then", x.node(1, 9), 315);
        Due.due("miss then", x.node(1, 10), 991);
    }

    @Says(in = "Promise 7", value = "NONE if what is 4 to 10 and the node is off")
    static void aNodeThatIsOff() {
        TimeFlood x = Given.read(Given.GAIN);
        x.period(4);
        x.power(1);
        int[] want = {8, 10, 228, 0, NONE, NONE, NONE, NONE, NONE, NONE, NONE};
        for (int what = 0; what <= 10; what++) {
            Due.due("node(1, " + what + ")", x.node(1, what), want[what]);
        }
        x.period(1);
        Due.due("its clock goes on", x.node(1, 2), 245);
    }

    @Says(in = "Promise 7", value = "UNKNOWN if there is no such node")
    static void nodesBeyondTheLast() {
        TimeFlood x = Given.read(Given.STAR);
        Due.due("node(-1, 0)", x.node(-1, 0), UNKNOWN);
        Due.due("node(4, 0)", x.node(4, 0), 4);
        Due.due("node(5, 0)", x.node(5, 0), UNKNOWN);
        for (int node : FAR) {
            Due.due("node(" + node + ", 0)", x.node(node, 0), UNKNOWN);
        }
    }

    @Says(in = "Promise 7", value = "BAD if what is not 0 to 10")
    static void nodeBeyond0And10() {
        TimeFlood x = Given.read(Given.PAIR);
        Due.due("node(0, -1)", x.node(0, -1), BAD);
        Due.due("node(0, 10)", x.node(0, 10), NONE);
        Due.due("node(0, 11)", x.node(0, 11), BAD);
        for (int what : FAR) {
            Due.due("node(0, " + what + ")", x.node(0, what), BAD);
        }
    }

    // ---- Promise 8: stamp

    @Says(in = "Promise 8", value = "the index of the stamp, from 0 for the oldest one")
    static void stampsFrom0To3() {
        TimeFlood x = Given.read(Given.GAIN);
        x.period(6);
        for (int i = 0; i <= 3; i++) {
            Due.due("mark " + i, x.stamp(1, i, 1), 48 + 16 * i);
        }
    }

    @Says(in = "Promise 8", value = "0: its clock; 1: its mark; 2: its age")
    static void thePartsOfAStamp() {
        TimeFlood x = Given.read(Given.GAIN);
        x.period(4);
        int[][] want = {{194, 32, 2}, {211, 48, 1}, {228, 64, 0}};
        for (int i = 0; i < 3; i++) {
            for (int what = 0; what <= 2; what++) {
                Due.due("stamp(1, " + i + ", " + what + ")", x.stamp(1, i, what), want[i][what]);
            }
        }
    }

    @Says(in = "Promise 8", value = "UNKNOWN if there is no such node")
    static void stampsOfNodesBeyondTheLast() {
        TimeFlood x = Given.read(Given.PAIR);
        x.period(3);
        Due.due("stamp(-1, 0, 0)", x.stamp(-1, 0, 0), UNKNOWN);
        Due.due("stamp(1, 0, 0)", x.stamp(1, 0, 0), 176);
        Due.due("stamp(2, 0, 0)", x.stamp(2, 0, 0), UNKNOWN);
        for (int node : FAR) {
            Due.due("stamp(" + node + ", 0, 0)", x.stamp(node, 0, 0), UNKNOWN);
        }
    }

    @Says(in = "Promise 8", value = "BAD if what is out of range")
    static void stampBeyond0And2() {
        TimeFlood x = Given.read(Given.PAIR);
        x.period(3);
        Due.due("stamp(1, 0, -1)", x.stamp(1, 0, -1), BAD);
        Due.due("stamp(1, 0, 2)", x.stamp(1, 0, 2), 1);
        Due.due("stamp(1, 0, 3)", x.stamp(1, 0, 3), BAD);
        for (int what : FAR) {
            Due.due("stamp(1, 0, " + what + ")", x.stamp(1, 0, what), BAD);
        }
    }

    @Says(in = "Promise 8", value = "NONE if the node has no such stamp (any other i), or is off")
    static void stampsThatAreNotThere() {
        TimeFlood x = Given.read(Given.PAIR);
        Due.due("none at first", x.stamp(1, 0, 0), NONE);
        x.period(3);
        Due.due("stamp(1, 1, 0)", x.stamp(1, 1, 0), 184);
        Due.due("stamp(1, 2, 0)", x.stamp(1, 2, 0), NONE);
        x.period(7);
        Due.due("stamp(1, 3, 2)", x.stamp(1, 3, 2), 0);
        for (int i : new int[] {-1, 4, 5, FAR[0], FAR[1]}) {
            Due.due("stamp(1, " + i + ", 2)", x.stamp(1, i, 2), NONE);
        }
        x.power(1);
        for (int i = -1; i <= 4; i++) {
            Due.due("off: stamp(1, " + i + ", 2)", x.stamp(1, i, 2), NONE);
        }
        x.power(1);
        Due.due("on again: stamp(1, 0, 2)", x.stamp(1, 0, 2), NONE);
    }

    // ---- Promise 9: link

    @Says(in = "Promise 9", value = "0: the lower one of its nodes; 1: the higher one; 2: 1 if it is down, 0 if "
            + "it is up")
    static void lowerAndHigherNode() {
        TimeFlood x = Given.read("F0810n400n400n400n400n400k40k01k32");
        int[][] want = {{0, 4, 0}, {0, 1, 0}, {2, 3, 1}};
        x.turn(2);
        for (int link = 0; link < 3; link++) {
            for (int what = 0; what <= 2; what++) {
                Due.due("link(" + link + ", " + what + ")", x.link(link, what), want[link][what]);
            }
        }
    }

    @Says(in = "Promise 9", value = "UNKNOWN if there is no such link")
    static void linkBeyondTheLast() {
        TimeFlood x = Given.read(Given.FULL_NET);
        Due.due("link(-1, 0)", x.link(-1, 0), UNKNOWN);
        Due.due("link(6, 1)", x.link(6, 1), 4);
        Due.due("link(7, 0)", x.link(7, 0), UNKNOWN);
        for (int link : FAR) {
            Due.due("link(" + link + ", 0)", x.link(link, 0), UNKNOWN);
        }
    }

    @Says(in = "Promise 9", value = "BAD if what is out of range")
    static void linkBeyond0And2() {
        TimeFlood x = Given.read(Given.PAIR);
        Due.due("link(0, -1)", x.link(0, -1), BAD);
        Due.due("link(0, 2)", x.link(0, 2), 0);
        Due.due("link(0, 3)", x.link(0, 3), BAD);
        for (int what : FAR) {
            Due.due("link(0, " + what + ")", x.link(0, what), BAD);
        }
    }
}
