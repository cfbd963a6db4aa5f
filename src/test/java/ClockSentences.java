/** Clocks, estimates and roundings: "Description", the clocks of its first part, and "State of a node". */
final class ClockSentences {
    private static final int NONE = TimeFlood.NONE;

    private ClockSentences() {
    }

    // ---- What it is, Description

    @Says(in = "Description", value = "/ with the words \"rounded down\" means the greatest integer that is not above "
            + "the quotient, also for negative numbers")
    static void quotientsBelow0AreRoundedDown() {
        // With drift -1 the clock loses 1 at each begun 64: t * drift / 64 is -1/8, -7/8, -1, -9/8, -2, -17/8.
        int[][] cases = {{1, 8 - 1}, {7, 56 - 1}, {8, 64 - 1}, {9, 72 - 2}, {16, 128 - 2}, {17, 136 - 3}};
        for (int[] c : cases) {
            TimeFlood x = Given.read("F0810n300");
            x.period(c[0]);
            Due.due("clock after " + c[0], x.node(0, 2), c[1]);
        }
        // With drift 1 the quotients are above 0: 7/8, 1, 15/8, 2.
        int[][] above = {{7, 56}, {8, 64 + 1}, {15, 120 + 1}, {16, 128 + 2}};
        for (int[] c : above) {
            TimeFlood x = Given.read("F0810n500");
            x.period(c[0]);
            Due.due("clock after " + c[0], x.node(0, 2), c[1]);
        }
    }

    @Says(in = "Description", value = "\"modulo n\" gives a result from 0 to n - 1")
    static void aSumBelow0IsMovedUp() {
        // One stamp, of 856: the clock 160 + 856 = 1016 and the mark 856. At 864 the clock is 0.
        TimeFlood x = Given.read("F0890n400n410k01");
        Given.pass(x, 106);
        Given.restart(x, 1);
        x.period(1);
        Due.due("stamp", x.stamp(1, 0, 0), 1016);
        x.turn(0);
        x.period(1);
        Due.due("clock", x.node(1, 2), 0);
        Due.due("0 + 856 - 1016", x.node(1, 9), 864);
        // The other way round the sum goes beyond 1023: 864 + 1016 - 856.
        x = Given.read("F0890n410n400k01");
        Given.pass(x, 107);
        x.turn(0);
        Due.due("sum at 1016", x.node(1, 9), 1016);
        x.period(1);
        Due.due("sum at 1024", x.node(1, 9), 0);
    }

    // ---- Nodes, links, clocks

    @Says(in = "Nodes, links, clocks", value = "The clock of a node at the time t is "
            + "(16 * start + t + (t * drift / 64, rounded down)) modulo 1024.")
    static void clocksGoFrom1023To0() {
        TimeFlood x = Given.read("F1510n463");
        x.period(1);
        Due.due("1008 + 15", x.node(0, 2), 1023);
        x = Given.read("F1610n463");
        x.period(1);
        Due.due("1008 + 16", x.node(0, 2), 0);
        x = Given.read("F3210n963n000");
        for (int periods = 1; periods <= 150; periods++) {
            x.period(1);
            int t = 32 * periods;
            Due.due("fast at " + t, x.node(0, 2), (1008 + t + t * 5 / 64) % 1024);
            Due.due("slow at " + t, x.node(1, 2), (t - t / 16) % 1024);
        }
    }

    @Says(in = "Nodes, links, clocks", value = "For a difference d of clocks, near(d) is d modulo 1024, minus 1024 "
            + "if that is 512 or more; so it is from -512 to 511.")
    static void missesFromMinus512To511() {
        // The clock of node 0 jumps by t * drift / 64, so that the miss of node 1 is near(- jump).
        int[][] cases = {{511, 4, -511}, {511, -4, 511}, {512, 4, -512}, {512, -4, -512},
            {513, 4, 511}, {513, -4, -511}};
        for (int[] c : cases) {
            TimeFlood x = Given.read("F1610n400n400k01");
            Given.pass(x, c[0]);
            Due.due("miss before", x.node(1, 10), 1000);
            Due.due("clock", x.drift(0, c[1]), Math.floorMod(16 * c[0] + c[0] * c[1] / 4, 1024));
            Due.due("miss + 1000 at a jump of " + c[0] * c[1] / 4, x.node(1, 10), 1000 + c[2]);
        }
    }

    // ---- State of a node

    @Says(in = "State of a node", value = "a root (a node, or NONE as at first)")
    static void noRootAtFirst() {
        TimeFlood x = Given.read(Given.PAIR);
        Due.due("root at first", x.node(1, 4), NONE);
        x.period(1);
        Due.due("root after 1", x.node(1, 4), NONE);
        x.period(1);
        Due.due("root after 2", x.node(1, 4), 0);
    }

    @Says(in = "State of a node", value = "a number (0 to 63; at first 0)")
    static void numbersFrom0To63() {
        TimeFlood x = Given.read(Given.PAIR);
        Due.due("at first", x.node(0, 5), 0);
        for (int periods = 1; periods <= 130; periods++) {
            x.period(1);
            Due.due("of the root after " + periods, x.node(0, 5), (periods - 1) % 64);
            Due.due("of the follower after " + periods, x.node(1, 5), (periods - 1) % 64);
        }
    }

    @Says(in = "State of a node", value = "a heart (at first 0), a guard (at first 0)")
    static void heartAndGuardAre0AtFirst() {
        TimeFlood x = Given.read(Given.SHY);
        Due.due("heart", x.node(1, 6), 0);
        Due.due("guard", x.node(1, 7), 0);
        x.period(1);
        Due.due("heart after 1", x.node(1, 6), 1);
        Due.due("guard after 1", x.node(1, 7), 0);
        x.period(1);
        Due.due("heart after 2", x.node(1, 6), 0);
        Due.due("guard after 2", x.node(1, 7), 2);
    }

    @Says(in = "State of a node", value = "a table of at most 4 stamps, the oldest one first (at first none)")
    static void fromNoStampsToFour() {
        TimeFlood x = Given.read(Given.PAIR);
        Due.due("at first", x.node(1, 8), 0);
        Due.due("stamp 0 at first", x.stamp(1, 0, 0), NONE);
        x.period(1);
        for (int count = 1; count <= 6; count++) {
            x.period(1);
            int kept = Math.min(count, 4);
            Due.due("stamps after " + count, x.node(1, 8), kept);
            for (int i = 0; i < kept; i++) {
                int age = kept - 1 - i;
                Due.due("clock " + i, x.stamp(1, i, 0), 160 + 8 * (count + 1 - age));
                Due.due("mark " + i, x.stamp(1, i, 1), 8 * (count + 1 - age));
                Due.due("age " + i, x.stamp(1, i, 2), age);
            }
            Due.due("stamp " + kept, x.stamp(1, kept, 0), NONE);
        }
    }

    @Says(in = "State of a node", value = "a mark (0 to 1023)")
    static void marksOf1023And0() {
        TimeFlood x = Given.read("F1510n448n400k01");
        x.period(17);
        Due.due("768 + 255", x.stamp(1, 3, 1), 1023);
        x = Given.read("F1510n449n400k01");
        x.period(16);
        Due.due("784 + 240", x.stamp(1, 3, 1), 0);
        Due.due("the mark before", x.stamp(1, 2, 1), 1009);
    }

    @Says(in = "State of a node", value = "c, if the node is its own root")
    static void anOwnRootWithAStampGoesByItsClock() {
        // Node 0 starts anew, hears its own number from node 1, and then runs faster.
        TimeFlood x = Given.read("F3210n400n400k01");
        x.period(5);
        Given.restart(x, 0);
        x.drift(0, 5);
        x.period(1);
        Due.due("its own root", x.node(0, 4), 0);
        Due.due("a stamp of its own", x.node(0, 8), 1);
        Due.due("its clock", x.stamp(0, 0, 0), 192 + 15);
        Due.due("its mark", x.stamp(0, 0, 1), 192);
        Due.due("its estimate", x.node(0, 9), 207);
        Due.due("its miss", x.node(0, 10), 1000);
    }

    @Says(in = "State of a node", value = "otherwise NONE, if its table is empty")
    static void noEstimateWithoutStamps() {
        TimeFlood x = Given.read(Given.PATIENT);
        for (int periods = 0; periods <= 9; periods++) {
            Due.due("estimate after " + periods, x.node(1, 9), NONE);
            x.period(1);
        }
        Due.due("estimate after 10", x.node(1, 9), 80);
        x.power(1);
        x.power(1);
        Due.due("estimate after a restart", x.node(1, 9), NONE);
    }

    @Says(in = "State of a node", value = "let x be near(its clock - C)")
    static void clocksOfStampsOnBothSidesOf1023() {
        // Clocks 1010, 3 and 20, marks 32, 48 and 64: as in the middle of the range, z is -1 a period later.
        TimeFlood x = Given.read("F1610n400n861k01");
        x.period(4);
        Due.due("clock 0", x.stamp(1, 0, 0), 1010);
        Due.due("clock 1", x.stamp(1, 1, 0), 3);
        x.turn(0);
        x.period(1);
        Due.due("clock", x.node(1, 2), 37);
        Due.due("37 + 64 - 20 - 1", x.node(1, 9), 80);
    }

    @Says(in = "State of a node", value = "y near((its mark - its clock) - (M - C))")
    static void marksOfStampsOnBothSidesOf1023() {
        // Clocks 194, 211 and 228, marks 1008, 0 and 16.
        TimeFlood x = Given.read("F1610n461n810k01");
        x.period(4);
        Due.due("mark 0", x.stamp(1, 0, 1), 1008);
        Due.due("mark 1", x.stamp(1, 1, 1), 0);
        x.turn(0);
        x.period(1);
        Due.due("245 + 16 - 228 - 1", x.node(1, 9), 32);
    }

    @Says(in = "State of a node", value = "Let X, Y, P and Q be the sums of x, y, x * y and x * x over all stamps")
    static void sumsOver1To4Stamps() {
        // A stamp every 17 ticks that loses 1: from 2 stamps on z is -1 a period later, with one stamp it is 0.
        for (int stamps = 1; stamps <= 6; stamps++) {
            TimeFlood x = Given.read(Given.GAIN);
            x.period(1 + stamps);
            Due.due("stamps", x.node(1, 8), Math.min(stamps, 4));
            x.turn(0);
            x.period(1);
            int clock = 160 + 17 * (2 + stamps);
            Due.due("clock", x.node(1, 2), clock);
            Due.due("estimate by " + stamps, x.node(1, 9), 16 * (2 + stamps) + (stamps == 1 ? 1 : 0));
        }
    }

    /** Node 2, just switched on, hears in one period node 0, which follows and is somewhat off, and then the root 1. */
    private static TimeFlood twoStampsAtOnce(String head) {
        TimeFlood x = Given.read(head + "n400k01k12k02");
        x.power(0);
        x.period(3);
        x.power(0);
        x.period(3);
        Given.restart(x, 2);
        x.period(1);
        Due.due("stamps", x.node(2, 8), 2);
        Due.due("clocks", x.stamp(2, 1, 0) - x.stamp(2, 0, 0), 0);
        return x;
    }

    @Says(in = "State of a node", value = "If E is 0, let z be Y / n, rounded down")
    static void stampsOfOneClock() {
        // Each row: the head, the two marks, and z for Y = -1, -2 and 1.
        Object[][] cases = {{"F3210n100n400", 223, 224, -1}, {"F3010n700n100", 198, 200, -1},
            {"F3010n100n300", 207, 206, 0}};
        for (Object[] c : cases) {
            TimeFlood x = twoStampsAtOnce((String) c[0]);
            Due.due("mark 0", x.stamp(2, 0, 1), (int) c[1]);
            Due.due("mark 1", x.stamp(2, 1, 1), (int) c[2]);
            Due.due("estimate", x.node(2, 9), (int) c[2] + (int) c[3]);
        }
        TimeFlood x = Given.read(Given.GAIN);
        x.period(2);
        Due.due("one stamp: E and Y are 0", x.node(1, 8), 1);
        Due.due("its estimate", x.node(1, 9), 32);
    }

    @Says(in = "State of a node", value = "otherwise let z be (Y * E - B * X + n * B * near(c - C)) / (n * E), "
            + "rounded down")
    static void regressionsAreRoundedDown() {
        // Clocks 194, 211, 228, marks 32, 48, 64: n = 3, B = -102, E = 1734, so that z is -near(c - C) / 17.
        TimeFlood x = Given.read(Given.GAIN);
        x.period(4);
        Due.due("near is 0", x.node(1, 9), 64);
        x.turn(0);
        x.period(1);
        Due.due("near is 17: z is -1", x.node(1, 9), 81 - 1);
        Due.due("clock with near 18", x.drift(1, 5), 246);
        Due.due("near is 18: z is -2", x.node(1, 9), 82 - 2);
        Due.due("clock with near 7", x.drift(1, -4), 235);
        Due.due("near is 7: z is -1", x.node(1, 9), 71 - 1);
        // Without a period between, the clock may jump back: at 64 by 8.
        x.undo();
        x.undo();
        x.undo();
        Due.due("clock with near -8", x.drift(1, -4), 220);
        Due.due("near is -8: z is 0", x.node(1, 9), 56);
    }

    @Says(in = "State of a node", value = "otherwise let the last stamp have the clock C and the mark M")
    static void lastStampsAllAroundTheClock() {
        for (int start = 0; start <= 63; start++) {
            String digits = "" + start / 10 + start % 10;
            TimeFlood fast = Given.read("F1610n400n8" + digits + "k01");
            TimeFlood slow = Given.read("F1610n4" + digits + "n000k01");
            fast.period(4);
            slow.period(4);
            for (int periods = 5; periods <= 21; periods++) {
                // Both lose their link for one period, and still know the time of the root.
                for (TimeFlood x : new TimeFlood[] {fast, slow}) {
                    x.period(1);
                    int root = x == fast ? 0 : 16 * start;
                    Due.due("now", x.node(1, 9), (root + 16 * periods) % 1024);
                    x.turn(0);
                    x.period(1);
                    Due.due("then", x.node(1, 9), (root + 16 * periods + 16) % 1024);
                    x.undo();
                    x.undo();
                }
            }
        }
    }

    @Says(in = "State of a node", value = "n * B * near(c - C)")
    static void clocksFarFromTheLastStamp() {
        // Four stamps 17 apart that lose 1 each: z is -near / 17. A jump of 511 is near, one of 512 is -512.
        TimeFlood x = Given.read(Given.GAIN);
        Given.pass(x, 2044);
        Due.due("clock", x.node(1, 2), 92);
        Due.due("clock then", x.drift(1, 5), 603);
        Due.due("603 + 960 - 92 - 31", x.node(1, 9), 416);
        x = Given.read(Given.GAIN);
        Given.pass(x, 2048);
        Due.due("clock", x.node(1, 2), 160);
        Due.due("clock then", x.drift(1, 5), 672);
        Due.due("672 + 0 - 160 + 30", x.node(1, 9), 542);
    }

    @Says(in = "State of a node", value = "The estimate is (c + M - C + z) modulo 1024.")
    static void estimatesFrom1023To0() {
        TimeFlood x = Given.read("F1510n448n400k01");
        x.period(17);
        Due.due("at 768 + 255", x.node(1, 9), 1023);
        x = Given.read("F1610n448n400k01");
        x.period(16);
        Due.due("at 768 + 256", x.node(1, 9), 0);
        // Here z is -1, and brings the sum down to 1024.
        x = Given.read("F1610n459n810k01");
        x.period(4);
        x.turn(0);
        x.period(1);
        Due.due("245 + 1008 - 228 - 1", x.node(1, 9), 0);
        Due.due("miss", x.node(1, 10), 1000);
    }
}
