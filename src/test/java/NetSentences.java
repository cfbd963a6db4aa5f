/** What a network has: "Nodes, links, clocks" but for the clocks, and promises 1 and 5. */
final class NetSentences {
    private static final int UNKNOWN = TimeFlood.UNKNOWN, LATE = TimeFlood.LATE, NONE = TimeFlood.NONE;

    private NetSentences() {
    }

    // ---- Nodes, links, clocks

    @Says(in = "Nodes, links, clocks", value = "There are at most 5 nodes, numbered from 0 (none at first).")
    static void fromNoNodesToFive() {
        Due.due("nodes at first", new TimeFlood().about(0), 0);
        Due.due("node 0 at first", new TimeFlood().node(0, 0), UNKNOWN);
        StringBuilder text = new StringBuilder("F0810");
        for (int count = 0; count <= 5; count++) {
            TimeFlood x = Given.typed(text.toString());
            Due.due("net", x.net(), count);
            Due.due("nodes", x.about(0), count);
            for (int node = -1; node <= 6; node++) {
                Due.due("node " + node + " of " + count, x.node(node, 3), node >= 0 && node < count ? 1 : UNKNOWN);
            }
            text.append("n400");
        }
        Due.due("six nodes", Given.typed(text.toString()).net(), LATE);
    }

    @Says(in = "Nodes, links, clocks", value = "A node is on (at first) or off")
    static void nodesAreOnAtFirst() {
        TimeFlood x = Given.read(Given.STAR);
        Due.due("on at first", x.about(6), 31);
        for (int node = 0; node < 5; node++) {
            Due.due("node " + node, x.node(node, 3), 1);
            x.power(node);
            Due.due("node " + node + " then", x.node(node, 3), 0);
        }
        Due.due("on at last", x.about(6), 0);
    }

    @Says(in = "Nodes, links, clocks", value = "and has a drift from -4 to 5")
    static void driftsFromMinus4To5() {
        for (int digit = 0; digit <= 9; digit++) {
            TimeFlood x = Given.read("F3210n" + digit + "00");
            x.period(2);
            Due.due("drift + 4", x.node(0, 0), digit);
            Due.due("clock at 64", x.node(0, 2), 64 + digit - 4);
        }
    }

    @Says(in = "Nodes, links, clocks", value = "and a start from 0 to 63")
    static void startsFrom0To63() {
        for (int start = 0; start <= 63; start++) {
            TimeFlood x = Given.read("F3210n4" + start / 10 + start % 10);
            Due.due("start", x.node(0, 1), start);
            Due.due("clock", x.node(0, 2), 16 * start);
        }
        Due.due("start 64", Given.typed("F3210n464").net(), LATE);
    }

    @Says(in = "Nodes, links, clocks", value = "There are at most 7 links, numbered from 0 (none at first)")
    static void fromNoLinksToSeven() {
        Due.due("links at first", new TimeFlood().about(1), 0);
        Due.due("link 0 at first", new TimeFlood().link(0, 2), UNKNOWN);
        String[] links = {"k01", "k02", "k03", "k04", "k12", "k13", "k14", "k23"};
        StringBuilder text = new StringBuilder("F0810n400n400n400n400n400");
        for (int count = 0; count <= 7; count++) {
            TimeFlood x = Given.read(text.toString());
            Due.due("links", x.about(1), count);
            for (int link = -1; link <= 8; link++) {
                Due.due("link " + link + " of " + count, x.link(link, 2), link >= 0 && link < count ? 0 : UNKNOWN);
            }
            text.append(links[count]);
        }
        Due.due("eight links", Given.typed(text.toString()).net(), LATE);
    }

    @Says(in = "Nodes, links, clocks", value = "each between two different nodes, at most one for the same two")
    static void noLinkToItselfAndNoSecondOne() {
        String two = "F0810n400n400";
        Due.due("0 to 0", Given.typed(two + "k00").net(), LATE);
        Due.due("1 to 1", Given.typed(two + "k11").net(), LATE);
        Due.due("0 to 1", Given.typed(two + "k01").net(), 2);
        Due.due("0 to 1 twice", Given.typed(two + "k01k01").net(), LATE);
        Due.due("0 to 1 and back", Given.typed(two + "k01k10").net(), LATE);
    }

    @Says(in = "Nodes, links, clocks", value = "a link is up (at first) or down")
    static void linksAreUpAtFirst() {
        TimeFlood x = Given.read(Given.FULL_NET);
        Due.due("down at first", x.about(9), 0);
        for (int link = 0; link < 7; link++) {
            Due.due("link " + link, x.link(link, 2), 0);
            x.turn(link);
            Due.due("link " + link + " then", x.link(link, 2), 1);
        }
        Due.due("down at last", x.about(9), 127);
    }

    @Says(in = "Nodes, links, clocks", value = "The time is 0 at first.")
    static void timeIs0AtFirst() {
        Due.due("of a new object", new TimeFlood().about(5), 0);
        Due.due("of a network", Given.read(Given.PAIR).about(5), 0);
    }

    @Says(in = "Nodes, links, clocks", value = "A period has L units of time (8 to 32; at first 8).")
    static void periodsOf8To32Units() {
        TimeFlood x = new TimeFlood();
        Due.due("L at first", x.about(2), 8);
        x.period(1);
        Due.due("time after a period at first", x.about(5), 8);
        for (int unit = 8; unit <= 32; unit++) {
            TimeFlood y = Given.read("F" + unit / 10 + unit % 10 + "10");
            Due.due("L", y.about(2), unit);
            y.period(1);
            Due.due("time", y.about(5), unit);
        }
    }

    @Says(in = "Nodes, links, clocks", value = "the patience (1 to 9; at first 1)")
    static void patiencesOf1To9() {
        Due.due("at first", new TimeFlood().about(3), 1);
        for (int patience = 1; patience <= 9; patience++) {
            TimeFlood x = Given.read("F08" + patience + "0n400");
            Due.due("patience", x.about(3), patience);
            x.period(patience);
            Due.due("root when the heart is " + patience, x.node(0, 4), NONE);
            x.period(1);
            Due.due("root then", x.node(0, 4), 0);
        }
    }

    @Says(in = "Nodes, links, clocks", value = "the shyness (0 to 9; at first 0)")
    static void shynessesOf0To9() {
        Due.due("at first", new TimeFlood().about(4), 0);
        for (int shyness = 0; shyness <= 9; shyness++) {
            TimeFlood x = Given.read("F081" + shyness + "n400");
            Due.due("shyness", x.about(4), shyness);
            x.period(2);
            Due.due("guard", x.node(0, 7), shyness);
        }
    }

    // ---- Promise 1: a new object

    @Says(in = "Promise 1", value = "Creates an object without nodes, links, observations and saved states, "
            + "with an empty text and the seed 0.")
    static void aNewObjectIsEmpty() {
        TimeFlood x = new TimeFlood();
        int[] first = {0, 0, 8, 1, 0, 0, 0, 0, 0, 0, 1, 0, 0, 0};
        for (int what = 0; what <= 13; what++) {
            Due.due("about(" + what + ")", x.about(what), first[what]);
        }
        Due.due("node 0", x.node(0, 2), UNKNOWN);
        Due.due("link 0", x.link(0, 0), UNKNOWN);
        Due.due("observations", x.unsee(), 0);
        Due.due("slot 0", x.again(0), LATE);
        Due.due("slot 1", x.again(1), LATE);
        Due.due("text", x.wipe(), 0);
        Due.due("fault", x.fault(), 0);
        Due.due("seed", x.seed(1L), 0);
        Due.due("acts", x.undo(), LATE);
        Due.due("in time", x.period(99), 0);
        Due.due("united", x.agree(), 0);
        Due.due("failed", x.which(), 0);
        Due.due("chance, upper", x.chance(20, 10, true), 1);
        Due.due("chance, lower", x.chance(20, 10, false), 1);
        Due.due("drawn", x.drawn(20), 0);
    }

    // ---- Promise 5: net

    /** A network in which everything was changed that net() has to bring back. */
    private static TimeFlood worn() {
        TimeFlood x = Given.read(Given.GAIN);
        x.seed(77L);
        x.see(0, 20, 1);
        x.period(5);
        x.turn(0);
        x.drift(0, -4);
        x.keep(0);
        x.keep(1);
        x.power(1);
        return x;
    }

    @Says(in = "Promise 5", value = "all nodes are on and in their first state")
    static void nodesAreNewAfterNet() {
        TimeFlood x = worn();
        x.net();
        int[][] want = {{4, 0, 0, 1, NONE, 0, 0, 0, 0, NONE, NONE}, {8, 10, 160, 1, NONE, 0, 0, 0, 0, NONE, NONE}};
        for (int node = 0; node < 2; node++) {
            for (int what = 0; what <= 10; what++) {
                Due.due("node(" + node + ", " + what + ")", x.node(node, what), want[node][what]);
            }
            Due.due("stamp", x.stamp(node, 0, 0), NONE);
        }
        Due.due("on", x.about(6), 3);
    }

    @Says(in = "Promise 5", value = "all links are up, the time is 0")
    static void linksAndTimeAreNewAfterNet() {
        TimeFlood x = worn();
        x.net();
        Due.due("down", x.about(9), 0);
        Due.due("link", x.link(0, 2), 0);
        Due.due("time", x.about(5), 0);
    }

    @Says(in = "Promise 5", value = "nothing can be undone, and the slots are empty")
    static void actsAndSlotsAreGoneAfterNet() {
        TimeFlood x = worn();
        x.net();
        Due.due("acts", x.about(11), 0);
        Due.due("undo", x.undo(), LATE);
        Due.due("again(0)", x.again(0), LATE);
        Due.due("again(1)", x.again(1), LATE);
    }

    @Says(in = "Promise 5", value = "The text, the observations and the seed stay.")
    static void textObservationsAndSeedStay() {
        TimeFlood x = worn();
        x.net();
        Due.due("seed", x.seed(0L), 77);
        Due.due("observations", x.about(12), 1);
        // Node 0 leads at 20 unless it is off, and never follows node 1, which is off or hears of 0.
        Due.due("the observation itself", x.which(), 0);
        Due.due("length", x.about(13), 16);
        Due.due("net once more", x.net(), 2);
    }

    @Says(in = "Promise 5", value = "Returns the number of nodes")
    static void netOfNoNodeAndOfFive() {
        Due.due("none", Given.typed("F0810").net(), 0);
        Due.due("one", Given.typed("F0810n400").net(), 1);
        Due.due("five", Given.typed(Given.FULL_NET).net(), 5);
        // A smaller network leaves nothing of a larger one.
        TimeFlood x = Given.read(Given.FULL_NET);
        x.period(2);
        x.power(4);
        Given.reread(x, "F0890n400");
        Due.due("nodes", x.about(0), 1);
        Due.due("links", x.about(1), 0);
        Due.due("on", x.about(6), 1);
        Due.due("node 1", x.node(1, 3), UNKNOWN);
        Due.due("link 0", x.link(0, 2), UNKNOWN);
        Due.due("united", x.about(10), 0);
        Given.reread(x, Given.FULL_NET);
        Due.due("on in the larger one", x.about(6), 31);
    }

    @Says(in = "Promise 5", value = "LATE if the text has a fault")
    static void netOfEmptyUnfinishedAndFaultyText() {
        Due.due("empty", new TimeFlood().net(), LATE);
        Due.due("unfinished", Given.typed(Given.PAIR + "n40").net(), LATE);
        Due.due("faulty", Given.typed(Given.PAIR + "x").net(), LATE);
        TimeFlood x = Given.read(Given.PAIR);
        x.write('x');
        Due.due("faulty behind a network", x.net(), LATE);
        Due.due("the network stays", x.about(0), 2);
    }
}
