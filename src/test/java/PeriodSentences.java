/** What happens in a period, who is in time and what is united: "A period", and promise 10. */
final class PeriodSentences {
    private static final int BAD = TimeFlood.BAD, NONE = TimeFlood.NONE;

    private PeriodSentences() {
    }

    // ---- steps 1 and 2

    @Says(in = "A period", value = "The following steps are done in this order, each for all nodes that are on")
    static void newsGoesOneLinkAPeriod() {
        // Along 0, 1, 2, 3 and against the order of the nodes along 0, 3, 2, 1 alike.
        String[] texts = {"F0810n400n400n400n400k01k12k23", "F0810n400n400n400n400k03k32k21"};
        int[][] ways = {{0, 1, 2, 3}, {0, 3, 2, 1}};
        for (int i = 0; i < 2; i++) {
            TimeFlood x = Given.read(texts[i]);
            x.period(20);
            for (int far = 1; far <= 3; far++) {
                Due.due("number " + far + " away", x.node(ways[i][far], 5), 19 - (far - 1));
                Due.due("heart " + far + " away", x.node(ways[i][far], 6), 0);
            }
        }
    }

    @Says(in = "A period", value = "nodes that are off do nothing")
    static void aNodeThatIsOffIsSilentAndDeaf() {
        TimeFlood x = Given.read(Given.LINE);
        x.power(1);
        x.period(20);
        Due.due("node 2 hears nothing of 0", x.node(2, 4), 2);
        Due.due("own roots", x.about(7), 5);
        x.power(1);
        Due.due("heart of node 1", x.node(1, 6), 0);
        Due.due("root of node 1", x.node(1, 4), NONE);
        Due.due("stamps of node 1", x.node(1, 8), 0);
        x.period(1);
        Due.due("heart of node 1 then", x.node(1, 6), 0);
        Due.due("root of node 1 then", x.node(1, 4), 0);
    }

    @Says(in = "A period", value = "The time increases by L.")
    static void timeBy1And99Periods() {
        TimeFlood x = Given.read("F3210");
        x.period(1);
        Due.due("after 1", x.about(5), 32);
        x.period(99);
        Due.due("after 100", x.about(5), 3200);
    }

    @Says(in = "A period", value = "The ages of all stamps increase by 1")
    static void theStampOfARootAgesToo() {
        TimeFlood x = Given.read(Given.PAIR);
        x.period(5);
        Given.restart(x, 0);
        x.period(1);
        for (int age = 0; age <= 9; age++) {
            Due.due("root", x.node(0, 4), 0);
            Due.due("stamps", x.node(0, 8), 1);
            Due.due("age", x.stamp(0, 0, 2), age);
            x.period(1);
        }
        Due.due("stamps then", x.node(0, 8), 0);
        Due.due("age then", x.stamp(0, 0, 2), NONE);
    }

    @Says(in = "A period", value = "stamps whose age is above 9 then are removed")
    static void age9StaysAndAge10Goes() {
        TimeFlood x = Given.read(Given.PATIENT);
        x.period(14);
        x.turn(0);
        // The four stamps have the ages 3 to 0.
        int[] stamps = {4, 4, 4, 4, 4, 4, 3, 2, 1, 0};
        int[] oldest = {4, 5, 6, 7, 8, 9, 9, 9, 9, NONE};
        for (int i = 0; i < 10; i++) {
            x.period(1);
            Due.due("stamps after " + (i + 1), x.node(1, 8), stamps[i]);
            Due.due("oldest age after " + (i + 1), x.stamp(1, 0, 2), oldest[i]);
        }
    }

    @Says(in = "A period", value = "The heart of the node increases by 1")
    static void heartsUpTo9() {
        TimeFlood x = Given.read("F0890n400");
        for (int heart = 1; heart <= 9; heart++) {
            x.period(1);
            Due.due("heart", x.node(0, 6), heart);
        }
        x.period(1);
        Due.due("heart of the root", x.node(0, 6), 0);
    }

    @Says(in = "A period", value = "its guard decreases by 1 if it is above 0")
    static void guardsFrom9To0() {
        TimeFlood x = Given.read("F0819n400");
        x.period(1);
        for (int guard = 9; guard >= 0; guard--) {
            x.period(1);
            Due.due("guard", x.node(0, 7), guard);
        }
        x.period(1);
        Due.due("guard after 0", x.node(0, 7), 0);
    }

    @Says(in = "A period", value = "A node that was its own root already: its number increases by 1 (63 becomes 0), "
            + "and its heart becomes 0.")
    static void theRootsNumberGoesFrom63To0() {
        TimeFlood x = Given.read(Given.PAIR);
        x.period(63);
        int[] numbers = {62, 63, 0, 1};
        for (int number : numbers) {
            Due.due("number", x.node(0, 5), number);
            Due.due("heart", x.node(0, 6), 0);
            x.period(1);
        }
    }

    @Says(in = "A period", value = "Another node whose heart is above the patience becomes its own root")
    static void aHeartOfThePatienceWaits() {
        for (int patience = 1; patience <= 9; patience++) {
            TimeFlood x = Given.read("F08" + patience + "0n400n400k01");
            x.period(patience + 8);
            Due.due("follows", x.node(1, 4), 0);
            x.turn(0);
            x.period(patience);
            Due.due("heart", x.node(1, 6), patience);
            Due.due("still follows", x.node(1, 4), 0);
            x.period(1);
            Due.due("heart then", x.node(1, 6), 0);
            Due.due("its own root", x.node(1, 4), 1);
        }
    }

    @Says(in = "A period", value = "becomes its own root: its number increases by 1 (63 becomes 0), its heart "
            + "becomes 0, "
            + "its table empty, and its guard the shyness")
    static void aNewRootGoesFrom63To0() {
        for (int shyness = 0; shyness <= 9; shyness += 9) {
            TimeFlood x = Given.read("F081" + shyness + "n400n400k01");
            // Two periods later it is its own root, with the number behind the one it had.
            for (int last = 61; last <= 64; last++) {
                x.period(last + 1 - x.about(5) / 8);
                x.turn(0);
                Due.due("number as a follower", x.node(1, 5), last % 64);
                x.period(1);
                Due.due("stamps as a follower", x.node(1, 8), 4);
                x.period(1);
                Due.due("number as a root", x.node(1, 5), (last + 1) % 64);
                Due.due("root", x.node(1, 4), 1);
                Due.due("heart", x.node(1, 6), 0);
                Due.due("stamps", x.node(1, 8), 0);
                Due.due("guard", x.node(1, 7), shyness);
                x.undo();
                x.undo();
                x.undo();
            }
        }
    }

    // ---- step 3

    @Says(in = "A period", value = "Each node that is its own root, or whose table has 2 or more stamps, sends "
            + "a message")
    static void oneStampIsSilentAndTwoSpeak() {
        TimeFlood x = Given.read(Given.LINE);
        x.period(2);
        Due.due("a root without stamps is heard", x.node(1, 4), 0);
        Due.due("stamps of node 1", x.node(1, 8), 1);
        x.period(1);
        Due.due("one stamp: node 2 heard nothing", x.node(2, 6), 1);
        Due.due("its root", x.node(2, 4), 1);
        Due.due("stamps of node 1 then", x.node(1, 8), 2);
        x.period(1);
        Due.due("two stamps: node 2 heard it", x.node(2, 6), 0);
        Due.due("its root then", x.node(2, 4), 0);
    }

    @Says(in = "A period", value = "with its root, its number and its estimate, as they are after step 2")
    static void messagesBearTheValuesOfStep2() {
        TimeFlood x = Given.read("F0810n400n410n420k01k12");
        x.period(6);
        // Node 0 sent its new number 5, and node 1 the 4 that it had before it heard of that.
        Due.due("number of node 0", x.node(0, 5), 5);
        Due.due("number of node 1", x.node(1, 5), 5);
        Due.due("number of node 2", x.node(2, 5), 4);
        Due.due("root of node 2", x.node(2, 4), 0);
        Due.due("mark at node 1", x.stamp(1, 3, 1), 48);
        Due.due("mark at node 2", x.stamp(2, 2, 1), 48);
        Due.due("clock at node 2", x.stamp(2, 2, 0), 320 + 48);
    }

    @Says(in = "A period", value = "over each of its links that is up")
    static void nothingGoesOverALinkThatIsDown() {
        TimeFlood x = Given.read("F0810n400n400n400k01k02");
        x.turn(0);
        x.period(5);
        Due.due("over the one that is down", x.node(1, 4), 1);
        Due.due("over the other", x.node(2, 4), 0);
        x.turn(0);
        x.period(1);
        Due.due("up again", x.node(1, 4), 0);
    }

    // ---- step 4

    @Says(in = "A period", value = "in ascending order of the senders")
    static void theLowerSenderIsHeardFirst() {
        // Node 0 follows 1 and sends the number before: heard first, its message is news.
        TimeFlood x = Given.read("F0810n400n400n400k01k12k02");
        x.power(0);
        x.period(3);
        x.power(0);
        x.period(3);
        Given.restart(x, 2);
        x.period(1);
        Due.due("root", x.node(2, 4), 1);
        Due.due("both are stored", x.node(2, 8), 2);
        Due.due("the last number", x.node(2, 5), 6);
        // Node 1 follows 0 and sends the number before: heard second, its message is none.
        x = Given.read(Given.TRIANGLE);
        x.period(6);
        Given.restart(x, 2);
        x.period(1);
        Due.due("root", x.node(2, 4), 0);
        Due.due("one is stored", x.node(2, 8), 1);
        Due.due("the first number", x.node(2, 5), 6);
    }

    @Says(in = "A period", value = "each message finds the node as the messages before have left it")
    static void theSecondOfTwoEqualMessagesIsOld() {
        TimeFlood x = Given.read("F0810n400n400n400n400k01k02k13k23");
        x.period(4);
        Due.due("root", x.node(3, 4), 0);
        Due.due("number", x.node(3, 5), 2);
        Due.due("stamps", x.node(3, 8), 1);
        x.period(1);
        Due.due("stamps then", x.node(3, 8), 2);
    }

    @Says(in = "A period", value = "If the node has no root, or r is less than its root")
    static void newRootsAreLowerOrTheFirst() {
        TimeFlood x = Given.read("F0810n400n400n400k01k12");
        x.turn(0);
        x.period(6);
        Due.due("node 2 follows 1", x.node(2, 4), 1);
        Due.due("the same root is none: stamps", x.node(2, 8), 4);
        x.turn(0);
        Given.restart(x, 0);
        x.period(1);
        Due.due("without a root also a greater one is taken", x.node(0, 4), 1);
        Due.due("own roots", x.about(7), 2);
        x = Given.read(Given.PAIR);
        x.period(9);
        Due.due("a greater one is not", x.node(0, 4), 0);
        Due.due("a lower one is", x.node(1, 4), 0);
    }

    @Says(in = "A period", value = "but not if the node is its own root with a guard above 0")
    static void guard1ResistsAndGuard0Yields() {
        for (int shyness = 0; shyness <= 9; shyness++) {
            TimeFlood x = Given.read("F081" + shyness + "n400n400k01");
            x.period(1);
            for (int guard = shyness; guard > 0; guard--) {
                x.period(1);
                Due.due("guard", x.node(1, 7), guard);
                Due.due("root with guard " + guard, x.node(1, 4), 1);
            }
            x.period(1);
            Due.due("guard", x.node(1, 7), 0);
            Due.due("root with guard 0", x.node(1, 4), 0);
        }
    }

    @Says(in = "A period", value = "r becomes the root of the node, its table is emptied, and the message is stored")
    static void aNewRootLeavesOneStamp() {
        TimeFlood x = Given.read("F0890n400n400n400k01k12");
        x.turn(0);
        x.period(14);
        Due.due("old root", x.node(2, 4), 1);
        Due.due("stamps", x.node(2, 8), 4);
        x.turn(0);
        x.period(3);
        Due.due("new root", x.node(2, 4), 0);
        Due.due("stamps then", x.node(2, 8), 1);
        Due.due("number", x.node(2, 5), x.node(1, 5) - 1);
        Due.due("age", x.stamp(2, 0, 2), 0);
    }

    /**
     * Node 1 has the number k - 1 of root 0, heard by way of node 2, when node 0, just started anew, tells it of
     * the number 1; if the way back is open, node 0 hears of the k - 1 at the same time.
     */
    private static TimeFlood oldNumber(int k) {
        TimeFlood x = Given.read("F0810n400n400n400k02k21k01");
        x.turn(2);
        x.period(k);
        x.turn(0);
        Given.restart(x, 0);
        x.period(1);
        Due.due("number of node 1 before", x.node(1, 5), (k - 1) % 64);
        x.turn(2);
        x.period(1);
        Due.due("number of node 0", x.node(0, 5), 1);
        return x;
    }

    @Says(in = "A period", value = "and (m - its number) modulo 64 is from 1 to 31, the message is stored")
    static void newsIsFrom1To31Ahead() {
        for (int ahead = 0; ahead <= 63; ahead++) {
            // Of 2 to 9 ahead node 1 would have had too few numbers yet: once more around.
            int k = 1 - ahead + 1;
            while (k < 20) {
                k += 64;
            }
            TimeFlood x = oldNumber(k);
            boolean news = ahead >= 1 && ahead <= 31;
            Due.due(ahead + " ahead: heart", x.node(1, 6), news ? 0 : 1);
            Due.due(ahead + " ahead: number", x.node(1, 5), news ? 1 : (k - 1) % 64);
            Due.due(ahead + " ahead: age of the last stamp", x.stamp(1, 3, 2), news ? 0 : 1);
            Due.due(ahead + " ahead: root", x.node(1, 4), 0);
        }
    }

    @Says(in = "A period", value = "the node is not its own root")
    static void aRootStoresNoNewsOfItself() {
        TimeFlood x = oldNumber(20);
        // Node 0 with the number 1 heard of 19 by node 1.
        Due.due("root of node 0", x.node(0, 4), 0);
        Due.due("stamps of node 0", x.node(0, 8), 0);
        x.period(1);
        Due.due("number of node 0 then", x.node(0, 5), 2);
        Due.due("stamps of node 0 then", x.node(0, 8), 0);
    }

    @Says(in = "A period", value = "All other messages are ignored.")
    static void ignoredMessagesChangeNothing() {
        // Node 0 hears of root 1, which is greater, as long as node 1 resists.
        TimeFlood x = Given.read("F0819n400n400k01");
        x.period(2);
        for (int i = 1; i <= 8; i++) {
            Due.due("root", x.node(0, 4), 0);
            Due.due("number", x.node(0, 5), i);
            Due.due("stamps", x.node(0, 8), 0);
            x.period(1);
        }
    }

    @Says(in = "A period", value = "the number of the node becomes m, its heart becomes 0, and a stamp with its "
            + "present "
            + "clock, the mark g and the age 0 is appended to its table")
    static void whatAStoredMessageLeaves() {
        TimeFlood x = Given.read(Given.GAIN);
        x.period(1);
        Due.due("heart before", x.node(1, 6), 1);
        x.period(1);
        Due.due("number", x.node(1, 5), 1);
        Due.due("heart", x.node(1, 6), 0);
        Due.due("clock", x.stamp(1, 0, 0), 194);
        Due.due("mark", x.stamp(1, 0, 1), 32);
        Due.due("age", x.stamp(1, 0, 2), 0);
        Due.due("stamps", x.node(1, 8), 1);
    }

    @Says(in = "A period", value = "if it had 4 stamps, the first one is removed before")
    static void theFifthStampDrivesOutTheFirst() {
        TimeFlood x = Given.read(Given.PAIR);
        x.period(4);
        Due.due("three", x.node(1, 8), 3);
        x.period(1);
        Due.due("four", x.node(1, 8), 4);
        Due.due("the first of four", x.stamp(1, 0, 1), 16);
        x.period(1);
        Due.due("still four", x.node(1, 8), 4);
        Due.due("the second is the first", x.stamp(1, 0, 1), 24);
        Due.due("the fifth is the last", x.stamp(1, 3, 1), 48);
    }

    @Says(in = "A period", value = "If r is the node itself, it is its own root again by this.")
    static void itsOwnRootByAFollowersWord() {
        TimeFlood x = Given.read(Given.PAIR);
        x.period(5);
        Given.restart(x, 0);
        Due.due("no root", x.node(0, 4), NONE);
        x.period(1);
        Due.due("root", x.node(0, 4), 0);
        Due.due("own roots", x.about(7), 1);
        Due.due("number of the follower", x.node(0, 5), 4);
        Due.due("stamps", x.node(0, 8), 1);
        x.period(1);
        Due.due("it goes on as a root", x.node(0, 5), 5);
        Due.due("and is followed", x.node(1, 5), 5);
    }

    // ---- in time, united

    @Says(in = "A period", value = "The miss of a node that is on is near(its estimate - the clock of its root), "
            + "whether the root is on or off")
    static void missesOfARootThatIsOff() {
        TimeFlood x = Given.read("F3290n400n000k01");
        x.period(10);
        x.turn(0);
        x.period(4);
        Due.due("its root on", x.node(1, 10), 992);
        x.power(0);
        Due.due("its root off", x.node(1, 10), 992);
        x.period(1);
        Due.due("a period later", x.node(1, 10), 990);
    }

    @Says(in = "A period", value = "it is NONE if the node has no root, or its estimate is NONE")
    static void noMissWithoutARoot() {
        TimeFlood x = Given.read(Given.PAIR);
        x.period(1);
        Due.due("without a root", x.node(1, 10), NONE);
        Due.due("in time", x.about(8), 0);
        x.period(1);
        Due.due("with a root", x.node(1, 10), 1000);
    }

    @Says(in = "A period", value = "A node is in time if it is on and its miss is from -3 to 3.")
    static void misses3And4() {
        // With one stamp of the time 320 the miss k periods later is k * drift / 2, rounded down.
        int[][] cases = {{3, 2, 3}, {-3, 2, -3}, {4, 2, 4}, {-4, 2, -4}, {5, 1, 2}, {3, 3, 4}, {-3, 3, -5}};
        for (int[] c : cases) {
            TimeFlood x = Given.read("F3290n400n" + (c[0] + 4) + "00k01");
            x.period(10);
            x.turn(0);
            boolean inTime = c[2] >= -3 && c[2] <= 3;
            Due.due("nodes in time at a miss of " + c[2], x.period(c[1]), inTime ? 2 : 1);
            Due.due("miss + 1000", x.node(1, 10), 1000 + c[2]);
            Due.due("set", x.about(8), inTime ? 3 : 1);
            x.power(1);
            Due.due("set without node 1", x.about(8), 1);
        }
    }

    @Says(in = "A period", value = "The network is united if all nodes that are on have the same root, which is "
            + "not NONE "
            + "(also if no node is on).")
    static void unitedNetworks() {
        TimeFlood x = Given.read(Given.PAIR);
        Due.due("no roots", x.about(10), 0);
        x.period(2);
        Due.due("one root", x.about(10), 1);
        x.power(0);
        Due.due("the root is off", x.about(10), 1);
        x.power(0);
        Due.due("one node without a root", x.about(10), 0);
        x.power(0);
        x.power(1);
        Due.due("no node is on", x.about(10), 1);
        x.power(1);
        Due.due("only a node without a root", x.about(10), 0);
        x = Given.read("F0810n400n400");
        x.period(2);
        Due.due("two roots", x.about(10), 0);
        x.power(0);
        Due.due("one of them off", x.about(10), 1);
        Due.due("without nodes", Given.read("F0810").about(10), 1);
    }

    // ---- Promise 10: period

    @Says(in = "Promise 10", value = "how many, 1 to 99")
    static void from1PeriodTo99() {
        TimeFlood x = Given.read(Given.PAIR);
        Due.due("period(1)", x.period(1), 0);
        Due.due("time", x.about(5), 8);
        Due.due("period(99)", x.period(99), 2);
        Due.due("time", x.about(5), 800);
    }

    @Says(in = "Promise 10", value = "Returns how many nodes are in time then")
    static void noneAndAllInTime() {
        TimeFlood x = Given.read(Given.STAR);
        Due.due("after 1", x.period(1), 0);
        Due.due("after 2", x.period(1), 5);
        x.power(4);
        Due.due("without node 4", x.period(1), 4);
        Due.due("without nodes", Given.read("F0810").period(1), 0);
    }

    @Says(in = "Promise 10", value = "BAD if n is out of range")
    static void periodsBeyond1And99() {
        for (int n : new int[] {0, 100, -1, -99, Integer.MIN_VALUE, Integer.MAX_VALUE}) {
            TimeFlood x = Given.read(Given.PAIR);
            Due.due("period(" + n + ")", x.period(n), BAD);
            Due.due("time", x.about(5), 0);
            Due.due("acts", x.about(11), 0);
        }
    }
}
