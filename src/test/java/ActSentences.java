/** What acts do and how they are undone: "Acts", and promises 11 to 14. */
final class ActSentences {
    private static final int UNKNOWN = TimeFlood.UNKNOWN, BAD = TimeFlood.BAD, LATE = TimeFlood.LATE,
            NONE = TimeFlood.NONE;

    private ActSentences() {
    }

    // ---- Acts

    @Says(in = "Acts", value = "Successful calls of period(), turn(), power() and drift() are acts")
    static void eachSuccessfulCallIsAnAct() {
        TimeFlood x = Given.read(Given.PAIR);
        x.period(1);
        Due.due("period", x.about(11), 1);
        x.turn(0);
        Due.due("turn", x.about(11), 2);
        x.power(1);
        Due.due("power", x.about(11), 3);
        x.drift(1, 0);
        Due.due("drift to what it is", x.about(11), 4);
        x.period(0);
        x.turn(1);
        x.power(2);
        x.drift(1, 6);
        Due.due("refused calls", x.about(11), 4);
        x.see(0, 0, 0);
        x.unsee();
        x.write('F');
        x.wipe();
        x.seed(5L);
        x.keep(0);
        x.drawn(3);
        x.agree();
        x.which();
        x.ahead(3, 0, 4);
        x.judge(1, 300L);
        x.share(0, true);
        x.chance(3, 3, true);
        Due.due("calls of other methods", x.about(11), 4);
    }

    @Says(in = "Acts", value = "(period() is one act)")
    static void ninetyNinePeriodsAreOneAct() {
        TimeFlood x = Given.read(Given.PAIR);
        x.period(1);
        x.period(99);
        Due.due("acts", x.about(11), 2);
        Due.due("undo", x.undo(), 1);
        Due.due("time", x.about(5), 8);
        Due.due("number", x.node(0, 5), 0);
    }

    @Says(in = "Acts", value = "The latest 14 acts can be undone, the latest one first.")
    static void fourteenActsAndNotFifteen() {
        for (int acts = 0; acts <= 30; acts++) {
            TimeFlood x = Given.read("F0810n400");
            int[] times = new int[acts + 1];
            for (int i = 1; i <= acts; i++) {
                x.period(i);
                times[i] = x.about(5);
            }
            int kept = Math.min(acts, 14);
            Due.due("acts of " + acts, x.about(11), kept);
            for (int i = 1; i <= kept; i++) {
                Due.due("undo " + i + " of " + acts, x.undo(), kept - i);
                Due.due("time after undo " + i + " of " + acts, x.about(5), times[acts - i]);
            }
            Due.due("undo " + (kept + 1) + " of " + acts, x.undo(), LATE);
            Due.due("time after all of " + acts, x.about(5), times[acts - kept]);
        }
    }

    // ---- Promise 11: turn

    @Says(in = "Promise 11", value = "Makes a link down that is up, or up if it is down.")
    static void downAndUpAgain() {
        TimeFlood x = Given.read(Given.FULL_NET);
        x.turn(6);
        Due.due("set", x.about(9), 64);
        x.turn(0);
        Due.due("set of two", x.about(9), 65);
        x.turn(6);
        Due.due("set of the other", x.about(9), 1);
        x.turn(0);
        Due.due("set of none", x.about(9), 0);
    }

    @Says(in = "Promise 11", value = "Returns 1 if it is down then, 0 if it is up")
    static void whatTurnReturns() {
        TimeFlood x = Given.read(Given.FULL_NET);
        for (int link = 0; link < 7; link++) {
            Due.due("turn(" + link + ")", x.turn(link), 1);
            Due.due("turn(" + link + ") again", x.turn(link), 0);
        }
    }

    @Says(in = "Promise 11", value = "UNKNOWN if there is no such link")
    static void linksBeyondTheLast() {
        TimeFlood x = Given.read(Given.FULL_NET);
        for (int link : new int[] {-1, 7, 32, Integer.MIN_VALUE, Integer.MAX_VALUE}) {
            Due.due("turn(" + link + ") of 7", x.turn(link), UNKNOWN);
        }
        Due.due("down", x.about(9), 0);
        Due.due("turn(0) of none", Given.read("F0810n400n400").turn(0), UNKNOWN);
        Due.due("turn(1) of 1", Given.read(Given.PAIR).turn(1), UNKNOWN);
    }

    // ---- Promise 12: power

    @Says(in = "Promise 12", value = "Switches a node off that is on, or on if it is off.")
    static void offAndOnAgain() {
        TimeFlood x = Given.read(Given.STAR);
        x.power(4);
        Due.due("on without 4", x.about(6), 15);
        x.power(0);
        Due.due("on without 0 and 4", x.about(6), 14);
        x.power(4);
        Due.due("on without 0", x.about(6), 30);
    }

    @Says(in = "Promise 12", value = "A node that is switched on has no root, the number, heart and guard 0, "
            + "and an empty table.")
    static void aRestartedNodeHasNothing() {
        TimeFlood x = Given.read("F0815n400n410n463k01k12");
        x.period(5);
        Due.due("number before", x.node(1, 5), 4);
        Due.due("guard before", x.node(1, 7), 2);
        Given.restart(x, 1);
        int[] want = {4, 10, 200, 1, NONE, 0, 0, 0, 0, NONE, NONE};
        for (int what = 0; what <= 10; what++) {
            Due.due("node(1, " + what + ")", x.node(1, what), want[what]);
        }
        x = Given.read(Given.PATIENT);
        x.period(15);
        x.turn(0);
        x.period(3);
        Due.due("heart before", x.node(1, 6), 3);
        Due.due("stamps before", x.node(1, 8), 4);
        Given.restart(x, 1);
        Due.due("heart", x.node(1, 6), 0);
        Due.due("stamps", x.node(1, 8), 0);
        Due.due("stamp", x.stamp(1, 0, 0), NONE);
    }

    @Says(in = "Promise 12", value = "Returns 1 if it is on then, 0 if it is off")
    static void whatPowerReturns() {
        TimeFlood x = Given.read(Given.STAR);
        for (int node = 0; node < 5; node++) {
            Due.due("power(" + node + ")", x.power(node), 0);
            Due.due("power(" + node + ") again", x.power(node), 1);
        }
    }

    @Says(in = "Promise 12", value = "UNKNOWN if there is no such node")
    static void powerBeyondTheLastNode() {
        TimeFlood x = Given.read(Given.STAR);
        for (int node : new int[] {-1, 5, 32, Integer.MIN_VALUE, Integer.MAX_VALUE}) {
            Due.due("power(" + node + ") of 5", x.power(node), UNKNOWN);
        }
        Due.due("on", x.about(6), 31);
        Due.due("power(0) of none", Given.read("F0810").power(0), UNKNOWN);
        Due.due("power(2) of 2", Given.read(Given.PAIR).power(2), UNKNOWN);
    }

    // ---- Promise 13: drift

    @Says(in = "Promise 13", value = "the new drift, -4 to 5")
    static void newDriftsFromMinus4To5() {
        TimeFlood x = Given.read("F3210n463");
        x.period(2);
        for (int d = -4; d <= 5; d++) {
            Due.due("drift(0, " + d + ")", x.drift(0, d), (1008 + 64 + d) % 1024);
            Due.due("drift + 4", x.node(0, 0), d + 4);
        }
    }

    @Says(in = "Promise 13", value = "Its start stays, so that its clock may jump.")
    static void theStartStays() {
        TimeFlood x = Given.read("F3210n463");
        Due.due("at the time 0 nothing jumps", x.drift(0, 5), 1008);
        x.period(99);
        Due.due("clock", x.node(0, 2), (1008 + 3168 + 247) % 1024);
        Due.due("clock that jumps", x.drift(0, -4), (1008 + 3168 - 198) % 1024);
        Due.due("start", x.node(0, 1), 63);
        Due.due("time", x.about(5), 3168);
    }

    @Says(in = "Promise 13", value = "Returns its clock then")
    static void alsoTheClockOfANodeThatIsOff() {
        TimeFlood x = Given.read("F3210n463");
        x.period(2);
        x.power(0);
        Due.due("drift(0, 5)", x.drift(0, 5), 53);
        Due.due("clock", x.node(0, 2), 53);
        Due.due("drift + 4", x.node(0, 0), 9);
        Due.due("still off", x.node(0, 3), 0);
    }

    @Says(in = "Promise 13", value = "UNKNOWN if there is no such node")
    static void driftBeyondTheLastNode() {
        TimeFlood x = Given.read(Given.PAIR);
        for (int node : new int[] {-1, 2, Integer.MIN_VALUE, Integer.MAX_VALUE}) {
            Due.due("drift(" + node + ", 0)", x.drift(node, 0), UNKNOWN);
            Due.due("drift(" + node + ", 6)", x.drift(node, 6), UNKNOWN);
        }
    }

    @Says(in = "Promise 13", value = "BAD if d is out of range")
    static void driftsBeyondMinus4And5() {
        TimeFlood x = Given.read(Given.PAIR);
        for (int d : new int[] {-5, 6, NONE, Integer.MIN_VALUE, Integer.MAX_VALUE}) {
            Due.due("drift(1, " + d + ")", x.drift(1, d), BAD);
        }
        Due.due("drift + 4", x.node(1, 0), 4);
        Due.due("acts", x.about(11), 0);
    }

    // ---- Promise 14: undo

    @Says(in = "Promise 14", value = "Undoes the latest act that can be undone.")
    static void eachKindOfActIsUndone() {
        TimeFlood x = Given.read(Given.GAIN);
        x.period(7);
        x.turn(0);
        x.power(1);
        x.drift(1, -4);
        x.undo();
        Due.due("drift", x.node(1, 0), 8);
        Due.due("power, not yet", x.node(1, 3), 0);
        x.undo();
        Due.due("on", x.node(1, 3), 1);
        Due.due("its root", x.node(1, 4), 0);
        Due.due("its number", x.node(1, 5), 6);
        Due.due("its stamps", x.node(1, 8), 4);
        Due.due("its last mark", x.stamp(1, 3, 1), 112);
        Due.due("turn, not yet", x.link(0, 2), 1);
        x.undo();
        Due.due("link", x.link(0, 2), 0);
        x.undo();
        Due.due("time", x.about(5), 0);
        Due.due("root at first", x.node(1, 4), NONE);
        Due.due("stamps at first", x.node(1, 8), 0);
        TimeFlood shy = Given.read("F0819n400n400k01");
        shy.period(3);
        shy.period(5);
        Due.due("guard", shy.node(1, 7), 3);
        shy.undo();
        Due.due("guard before", shy.node(1, 7), 8);
        // What is done after an undo takes the place of what was undone.
        x.turn(0);
        x.undo();
        x.power(0);
        Due.due("undo of the new act", x.undo(), 0);
        Due.due("on", x.about(6), 3);
        Due.due("down", x.about(9), 0);
    }

    @Says(in = "Promise 14", value = "Returns how many acts can still be undone")
    static void countsFrom13To0() {
        TimeFlood x = Given.read(Given.PAIR);
        for (int i = 0; i < 15; i++) {
            x.turn(0);
        }
        for (int left = 13; left >= 0; left--) {
            Due.due("undo", x.undo(), left);
            Due.due("about(11)", x.about(11), left);
        }
        Due.due("the fifteenth act back stays", x.about(9), 1);
    }

    @Says(in = "Promise 14", value = "LATE if there is nothing to be undone")
    static void nothingToBeUndone() {
        Due.due("of a new object", new TimeFlood().undo(), LATE);
        TimeFlood x = Given.read(Given.PAIR);
        Due.due("of a new network", x.undo(), LATE);
        x.turn(0);
        Due.due("the only one", x.undo(), 0);
        Due.due("once too often", x.undo(), LATE);
        x.turn(1);
        Due.due("after a refused act", x.undo(), LATE);
    }
}
