/** Observations and the node that failed: promises 18 to 20. */
final class SeenSentences {
    private static final int UNKNOWN = TimeFlood.UNKNOWN, BAD = TimeFlood.BAD, FULL = TimeFlood.FULL,
            NONE = TimeFlood.NONE;
    private static final int[] FAR = {Integer.MIN_VALUE, Integer.MAX_VALUE};
    /** Node 2 follows 1 from period 18 on, and 0 from period 20 on; node 3 is alone. */
    private static final String LATE_LINE = "F0889n400n400n400n400k01k12";

    private SeenSentences() {
    }

    // ---- Promise 18: see

    @Says(in = "Promise 18", value = "0 to 20")
    static void observationsAfter0To20Periods() {
        TimeFlood x = Given.read(LATE_LINE);
        Due.due("see(2, 0, NONE)", x.see(2, 0, NONE), 1);
        Due.due("no root now", x.which(), 15);
        Due.due("see(2, 20, 0)", x.see(2, 20, 0), 2);
        Due.due("root 0 after 20", x.which(), 8);
        x.unsee();
        x.see(2, 20, 1);
        Due.due("root 1 after 20: node 0 failed", x.which(), 1);
        x.unsee();
        x.see(2, 19, 1);
        Due.due("root 1 after 19: node 0 or 3 failed", x.which(), 9);
        x.unsee();
        x.see(2, 19, 0);
        Due.due("root 0 after 19", x.which(), 0);
    }

    @Says(in = "Promise 18", value = "the root of a node is a certain node, or NONE (also if the node is off then)")
    static void noRootIsSeenAlsoOfANodeThatIsOff() {
        TimeFlood x = Given.read(Given.STAR);
        x.period(5);
        x.power(3);
        x.see(3, 7, NONE);
        Due.due("off already", x.which(), 1 + 2 + 4 + 16);
        x.see(4, 7, NONE);
        Due.due("off by failing", x.which(), 16);
        x.see(4, 0, NONE);
        Due.due("off at once", x.which(), 16);
        x.see(4, 7, 0);
        Due.due("but then it has no root", x.which(), 0);
        x.unsee();
        Given.restart(x, 4);
        x.see(4, 0, NONE);
        Due.due("on without a root", x.which(), 1 + 2 + 4 + 16);
    }

    @Says(in = "Promise 18", value = "There are at most 6 observations.")
    static void theSeventhObservationIsRefused() {
        TimeFlood x = Given.read(Given.PAIR);
        for (int i = 1; i <= 6; i++) {
            Due.due("observation " + i, x.see(0, i, 0), i);
        }
        Due.due("the seventh", x.see(0, 7, 0), FULL);
        Due.due("observations", x.about(12), 6);
        x.unsee();
        Due.due("after unsee", x.see(0, 7, 0), 1);
        // All six count, the first and the sixth as the others.
        for (int odd = 0; odd < 6; odd++) {
            TimeFlood y = Given.read(Given.PAIR);
            for (int i = 0; i < 6; i++) {
                y.see(0, 20, i == odd ? 1 : 0);
            }
            Due.due("with observation " + odd + " wrong", y.which(), 0);
        }
    }

    @Says(in = "Promise 18", value = "Returns the number of observations then")
    static void countsOfObservations() {
        TimeFlood x = Given.read(Given.PAIR);
        Due.due("first", x.see(0, 0, 0), 1);
        Due.due("the same again", x.see(0, 0, 0), 2);
        Due.due("its contrary", x.see(0, 0, 1), 3);
    }

    @Says(in = "Promise 18", value = "UNKNOWN if there is no such node")
    static void observationsOfNodesBeyondTheLast() {
        TimeFlood x = Given.read(Given.STAR);
        Due.due("see(4, 0, 0)", x.see(4, 0, 0), 1);
        for (int node : new int[] {-1, 5, NONE, FAR[0], FAR[1]}) {
            Due.due("see(" + node + ", 0, 0)", x.see(node, 0, 0), UNKNOWN);
        }
    }

    @Says(in = "Promise 18", value = "BAD if n is out of range, or root is neither NONE nor a node")
    static void observationsOutOfRange() {
        TimeFlood x = Given.read(Given.STAR);
        for (int n : new int[] {-1, 21, NONE, FAR[0], FAR[1]}) {
            Due.due("see(0, " + n + ", 0)", x.see(0, n, 0), BAD);
        }
        for (int root : new int[] {-1, 5, -8, -10, FAR[0], FAR[1]}) {
            Due.due("see(0, 0, " + root + ")", x.see(0, 0, root), BAD);
        }
        Due.due("see(0, 0, 4)", x.see(0, 0, 4), 1);
        Due.due("see(0, 0, NONE)", x.see(0, 0, NONE), 2);
    }

    @Says(in = "Promise 18", value = "FULL if there are 6 observations")
    static void fullAt6() {
        TimeFlood x = Given.read(Given.PAIR);
        for (int i = 1; i <= 5; i++) {
            x.see(0, 0, 0);
        }
        Due.due("with 5", x.see(0, 0, 0), 6);
        Due.due("with 6", x.see(0, 0, 0), FULL);
    }

    // ---- Promise 19: unsee

    @Says(in = "Promise 19", value = "Removes all observations.")
    static void withoutObservationsAllNodesExplainThem() {
        TimeFlood x = Given.read(Given.PAIR);
        x.see(0, 0, 1);
        x.see(1, 20, 1);
        Due.due("with a false one", x.which(), 0);
        x.unsee();
        Due.due("observations", x.about(12), 0);
        Due.due("with none", x.which(), 3);
    }

    @Says(in = "Promise 19", value = "Returns how many there were.")
    static void unseeOfNoneAndOfSix() {
        TimeFlood x = Given.read(Given.PAIR);
        for (int count = 0; count <= 6; count++) {
            for (int i = 0; i < count; i++) {
                x.see(0, 0, 0);
            }
            Due.due("unsee of " + count, x.unsee(), count);
        }
        Due.due("once more", x.unsee(), 0);
    }

    // ---- Promise 20: which

    @Says(in = "Promise 20", value = "finds the nodes that are on, such that all observations would be true if "
            + "just this "
            + "node were switched off now")
    static void onlyNodesThatAreOnCanFail() {
        TimeFlood x = Given.read(Given.STAR);
        Due.due("all can", x.which(), 31);
        x.power(4);
        Due.due("without 4", x.which(), 15);
        for (int node = 0; node < 4; node++) {
            x.power(node);
        }
        Due.due("none is on", x.which(), 0);
        Due.due("without nodes", Given.read("F0810").which(), 0);
        x = Given.read(Given.LINE);
        x.see(2, 20, 1);
        x.see(1, 20, 1);
        Due.due("node 0 failed", x.which(), 1);
        x.see(0, 20, 0);
        Due.due("which it did not", x.which(), 0);
        x.unsee();
        x.see(0, 20, 0);
        x.see(2, 20, 2);
        Due.due("node 1 failed", x.which(), 2);
        Looks.unchanged("which()", x, y -> y.which());
    }

    @Says(in = "Promise 18", value = "after n periods (beginning with the state when which() is called)")
    static void observationsBeginWhenAsked() {
        TimeFlood x = Given.read(LATE_LINE);
        x.see(2, 1, 0);
        for (int periods = 0; periods <= 20; periods++) {
            // From 19 on node 1 can tell node 2 of root 0 also if 0 itself fails; at 20 node 2 knows it already.
            Due.due("after " + periods, x.which(), periods < 19 ? 0 : periods == 19 ? 8 + 1 : 8 + 2 + 1);
            x.period(1);
        }
    }

    @Says(in = "Promise 20", value = "Observations of nodes that do not exist any more are ignored")
    static void observationsOfNodesThatAreGone() {
        TimeFlood x = Given.read(Given.LINE);
        x.see(2, 20, 0);
        x.see(2, 20, 1);
        Due.due("they contradict each other", x.which(), 0);
        Given.reread(x, Given.PAIR);
        Due.due("both are of a node that is gone", x.which(), 3);
        Due.due("they are still there", x.about(12), 2);
        x.see(1, 20, 1);
        Due.due("one that is not", x.which(), 1);
        Given.reread(x, Given.LINE);
        Due.due("node 2 is back", x.which(), 0);
        x.unsee();
        x.see(2, 0, 2);
        Given.reread(x, Given.PAIR);
        Due.due("its root is gone as well", x.which(), 3);
    }

    @Says(in = "Promise 20", value = "a root that does not exist any more makes an observation false")
    static void observationsOfRootsThatAreGone() {
        TimeFlood x = Given.read(Given.LINE);
        x.see(1, 20, 2);
        x.see(0, 0, 2);
        Given.reread(x, Given.PAIR);
        Due.due("root 2 is gone", x.which(), 0);
        x.unsee();
        Due.due("without it", x.which(), 3);
        // Also if the node has no root then.
        Given.reread(x, Given.LINE);
        x.see(0, 0, 2);
        Given.reread(x, "F0810n400");
        Due.due("no root is not the root that is gone", x.which(), 0);
    }

    @Says(in = "Promise 20", value = "Returns the set of these nodes.")
    static void setsOfFailedNodes() {
        TimeFlood x = Given.read(Given.STAR);
        x.period(5);
        for (int node = 0; node < 5; node++) {
            x.see(node, 5, NONE);
            Due.due("node " + node + " failed", x.which(), 1 << node);
            x.unsee();
        }
    }
}
