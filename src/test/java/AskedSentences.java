/** Forecasts and statements: promises 15 to 17. */
final class AskedSentences {
    private static final int UNKNOWN = TimeFlood.UNKNOWN, BAD = TimeFlood.BAD, NONE = TimeFlood.NONE;
    private static final int[] FAR = {Integer.MIN_VALUE, Integer.MAX_VALUE};

    private AskedSentences() {
    }

    // ---- Promise 15: ahead

    @Says(in = "Promise 15", value = "Forecasts a property of a node after n periods, without changing anything.")
    static void forecastsComeTrue() {
        for (int n : new int[] {0, 1, 2, 9, 60, 99}) {
            TimeFlood x = Given.read("F3212n400n910n463k01k12");
            x.period(5);
            Looks.unchanged("ahead(" + n + ", 2, 10)", x, y -> y.ahead(n, 2, 10));
            int[] told = new int[27];
            for (int i = 0; i < 27; i++) {
                told[i] = x.ahead(n, i / 9, 2 + i % 9);
            }
            if (n > 0) {
                x.period(n);
            }
            for (int i = 0; i < 27; i++) {
                Due.due("ahead(" + n + ", " + i / 9 + ", " + (2 + i % 9) + ")", told[i], x.node(i / 9, 2 + i % 9));
            }
        }
    }

    @Says(in = "Promise 15", value = "the number of periods, 0 to 99")
    static void from0PeriodsTo99() {
        TimeFlood x = Given.read(Given.PAIR);
        Due.due("clock in 0", x.ahead(0, 1, 2), 160);
        Due.due("clock in 1", x.ahead(1, 1, 2), 168);
        Due.due("clock in 99", x.ahead(99, 1, 2), 952);
        Due.due("number in 99", x.ahead(99, 0, 5), 98 - 64);
    }

    @Says(in = "Promise 15", value = "2 to 10, as for node()")
    static void whatFrom2To10() {
        TimeFlood x = Given.read(Given.PAIR);
        int[] want = {160 + 16, 1, 0, 1, 0, 0, 1, 16, 1000};
        for (int what = 2; what <= 10; what++) {
            Due.due("ahead(2, 1, " + what + ")", x.ahead(2, 1, what), want[what - 2]);
        }
        x.power(1);
        int[] off = {176, 0, NONE, NONE, NONE, NONE, NONE, NONE, NONE};
        for (int what = 2; what <= 10; what++) {
            Due.due("off: ahead(2, 1, " + what + ")", x.ahead(2, 1, what), off[what - 2]);
        }
    }

    @Says(in = "Promise 15", value = "UNKNOWN if there is no such node")
    static void forecastsOfNodesBeyondTheLast() {
        TimeFlood x = Given.read(Given.STAR);
        Due.due("ahead(1, -1, 2)", x.ahead(1, -1, 2), UNKNOWN);
        Due.due("ahead(1, 4, 2)", x.ahead(1, 4, 2), 8);
        Due.due("ahead(1, 5, 2)", x.ahead(1, 5, 2), UNKNOWN);
        for (int node : FAR) {
            Due.due("ahead(1, " + node + ", 2)", x.ahead(1, node, 2), UNKNOWN);
        }
    }

    @Says(in = "Promise 15", value = "BAD if n or what is out of range")
    static void forecastsOutOfRange() {
        TimeFlood x = Given.read(Given.PAIR);
        for (int n : new int[] {-1, 100, FAR[0], FAR[1]}) {
            Due.due("ahead(" + n + ", 0, 2)", x.ahead(n, 0, 2), BAD);
        }
        for (int what : new int[] {-1, 0, 1, 11, FAR[0], FAR[1]}) {
            Due.due("ahead(0, 0, " + what + ")", x.ahead(0, 0, what), BAD);
        }
    }

    // ---- Promise 16: agree

    /**
     * A network that is united only 67 periods from here. Node 0 was started anew while the others still had its
     * old numbers; for two times 31 periods they take these from one another.
     */
    private static TimeFlood slow() {
        TimeFlood x = Given.read("F0830n400n400n400n400n400k01k03k12k13k24k23k04");
        Given.downIs(x, 7);
        x.period(37);
        Given.restart(x, 0);
        for (int down : new int[] {115, 71, 91, 118, 95}) {
            Given.downIs(x, down);
            x.period(1);
        }
        Given.downIs(x, 96);
        return x;
    }

    @Says(in = "Promise 16", value = "Returns the smallest number, 0 to 60, after which it is")
    static void unitedAfter60PeriodsAndAfter61() {
        TimeFlood x = slow();
        x.period(6);
        Due.due("61 periods before", x.agree(), NONE);
        x.period(1);
        Due.due("60 periods before", x.agree(), 60);
        x.period(1);
        Due.due("59 periods before", x.agree(), 59);
        x.period(58);
        Due.due("1 period before", x.agree(), 1);
        Due.due("not yet", x.about(10), 0);
        x.period(1);
        Due.due("then", x.agree(), 0);
        Due.due("united", x.about(10), 1);
    }

    @Says(in = "Promise 16", value = "Finds after how many periods the network is united.")
    static void theFirstTimeCounts() {
        Due.due("no nodes", Given.read("F0810").agree(), 0);
        Due.due("one node", Given.read("F0890n400").agree(), 10);
        Due.due("a pair", Given.read(Given.PAIR).agree(), 2);
        // Torn from its root, the pair stays united for one period more, and is not a period later.
        TimeFlood x = Given.read(Given.PAIR);
        x.period(5);
        x.turn(0);
        x.period(1);
        Due.due("still united", x.agree(), 0);
        x.period(1);
        Due.due("no longer", x.agree(), NONE);
        Looks.unchanged("agree()", x, y -> y.agree());
    }

    @Says(in = "Promise 16", value = "NONE if there is none")
    static void neverUnited() {
        Due.due("two apart", Given.read("F0810n400n400").agree(), NONE);
        TimeFlood x = Given.read(Given.PAIR);
        x.turn(0);
        Due.due("a pair without its link", x.agree(), NONE);
    }

    // ---- Promise 17: judge

    @Says(in = "Promise 17", value = "the number of statements, 1 to 4")
    static void from1StatementTo4() {
        TimeFlood x = Given.read(Given.PAIR);
        Due.due("0", x.judge(0, 0L), BAD);
        Due.due("1", x.judge(1, 101L), NONE);
        Due.due("2", x.judge(2, 101101L), NONE);
        Due.due("3", x.judge(3, 101101101L), NONE);
        Due.due("4", x.judge(4, 101101101101L), NONE);
        Due.due("5", x.judge(5, 101101101101101L), BAD);
    }

    @Says(in = "Promise 17", value = "the digits of all statements as one decimal number, the first statement in the "
            + "highest digits, 0 to 10^(3 * n) - 1")
    static void rowsFrom0ToAllNines() {
        TimeFlood x = Given.read(Given.PAIR);
        long limit = 1L;
        for (int n = 1; n <= 4; n++) {
            limit *= 1000L;
            Due.due("judge(" + n + ", -1)", x.judge(n, -1L), BAD);
            Due.due("judge(" + n + ", 0)", x.judge(n, 0L), 0);
            Due.due("judge(" + n + ", all nines)", x.judge(n, limit - 1L), 0);
            Due.due("judge(" + n + ", one more)", x.judge(n, limit), BAD);
        }
        Due.due("the first is 000", x.judge(2, 101L), 0);
        Due.due("the second is 000", x.judge(2, 101000L), 1);
        Due.due("two periods, then a root", x.judge(2, 102410L), NONE);
        Due.due("a root, then two periods", x.judge(2, 410102L), 0);
    }

    @Says(in = "Promise 17", value = "10 * a + b periods pass; this number must be 1 to 99")
    static void periodsOfStatements() {
        TimeFlood x = Given.read(Given.PAIR);
        Due.due("0 periods", x.judge(1, 100L), 0);
        for (int n = 1; n <= 99; n++) {
            Due.due(n + " periods", x.judge(1, 100L + n), NONE);
        }
        TimeFlood slow = Given.read("F0890n400n410k01");
        Due.due("root after 9", slow.judge(2, 109410L), 1);
        Due.due("root after 10", slow.judge(2, 110410L), NONE);
        Due.due("stamps after 12", slow.judge(2, 112613L), NONE);
        TimeFlood line = Given.read("F0889n400n400n400k01k12");
        Due.due("root after 19", line.judge(2, 119420L), 1);
        Due.due("root after 20", line.judge(2, 120420L), NONE);
        Due.due("root and 4 stamps after 99", slow.judge(3, 199410614L), NONE);
    }

    @Says(in = "Promise 17", value = "f = 2: link b is turned, as by turn(); a must be 0")
    static void turnsOfStatements() {
        TimeFlood x = Given.read(Given.FULL_NET);
        Due.due("link 0", x.judge(1, 200L), NONE);
        Due.due("link 6", x.judge(1, 206L), NONE);
        Due.due("link 7", x.judge(1, 207L), 0);
        Due.due("link 9", x.judge(1, 209L), 0);
        Due.due("a = 1", x.judge(1, 210L), 0);
        Due.due("a = 9", x.judge(1, 290L), 0);
        TimeFlood y = Given.read(Given.PAIR);
        Due.due("turned", y.judge(3, 200105411L), NONE);
        Due.due("turned twice", y.judge(4, 200200105410L), NONE);
    }

    @Says(in = "Promise 17", value = "f = 3: node b is switched, as by power(); a must be 0")
    static void switchesOfStatements() {
        TimeFlood x = Given.read(Given.STAR);
        Due.due("node 0", x.judge(1, 300L), NONE);
        Due.due("node 4", x.judge(1, 304L), NONE);
        Due.due("node 5", x.judge(1, 305L), 0);
        Due.due("node 9", x.judge(1, 309L), 0);
        Due.due("a = 1", x.judge(1, 310L), 0);
        Due.due("a = 9", x.judge(1, 390L), 0);
        x.period(5);
        Due.due("off and on: no stamps", x.judge(3, 301301610L), NONE);
        Due.due("off: no 0 stamps either", x.judge(2, 301610L), 1);
    }

    @Says(in = "Promise 17", value = "f = 4: the node a is on, and its root is the node b")
    static void rootsOfStatements() {
        TimeFlood x = Given.read(Given.STAR);
        Due.due("no root is no node", x.judge(1, 440L), 0);
        x.period(2);
        Due.due("root of 4 is 0", x.judge(1, 440L), NONE);
        Due.due("root of 4 is 4", x.judge(1, 444L), 0);
        Due.due("root of 0 is 0", x.judge(1, 400L), NONE);
        Due.due("root of 5", x.judge(1, 450L), 0);
        Due.due("root of 4 is 5", x.judge(1, 445L), 0);
        Due.due("root of 9 is 9", x.judge(1, 499L), 0);
        Due.due("its root is off", x.judge(2, 300440L), NONE);
        Due.due("it is off itself", x.judge(2, 304440L), 1);
    }

    @Says(in = "Promise 17", value = "f = 5: the node b is in time; a must be 0")
    static void timesOfStatements() {
        TimeFlood x = Given.read(Given.STAR);
        Due.due("without a root", x.judge(1, 504L), 0);
        x.period(2);
        Due.due("node 0", x.judge(1, 500L), NONE);
        Due.due("node 4", x.judge(1, 504L), NONE);
        Due.due("node 5", x.judge(1, 505L), 0);
        Due.due("a = 1", x.judge(1, 514L), 0);
        Due.due("it is off", x.judge(2, 304504L), 1);
        // A miss of 3 is in time, one of 4 is not.
        TimeFlood y = Given.read("F3290n400n700k01");
        y.period(10);
        Due.due("miss of 3", y.judge(3, 200102501L), NONE);
        Due.due("miss of 4", y.judge(3, 200103501L), 2);
    }

    @Says(in = "Promise 17", value = "f = 6: the node a is on, and has b stamps")
    static void stampsOfStatements() {
        TimeFlood x = Given.read(Given.STAR);
        for (int periods = 0; periods <= 6; periods++) {
            int stamps = Math.max(0, Math.min(periods - 1, 4));
            for (int b = 0; b <= 9; b++) {
                Due.due(b + " stamps after " + periods, x.judge(1, 640L + b), b == stamps ? NONE : 0);
            }
            x.period(1);
        }
        Due.due("stamps of node 5", x.judge(1, 650L), 0);
        Due.due("stamps of node 9", x.judge(1, 690L), 0);
    }

    @Says(in = "Promise 17", value = "The first three are carried out for the statements that follow.")
    static void whatFollowsAStatement() {
        TimeFlood x = Given.read(Given.PAIR);
        Due.due("a period and a period", x.judge(3, 101101410L), NONE);
        Due.due("a period only", x.judge(2, 101410L), 1);
        Due.due("a turn, and then periods", x.judge(4, 200103411400L), NONE);
        Due.due("a switch, and then periods", x.judge(4, 300103411400L), 3);
        Due.due("the other three carry out nothing", x.judge(4, 610610610610L), NONE);
    }

    @Says(in = "Promise 17", value = "A statement is wrong if it is of none of these forms, names a node or "
            + "link that does "
            + "not exist, or is not true at that moment.")
    static void statementsOfOtherForms() {
        TimeFlood x = Given.read(Given.STAR);
        x.period(5);
        for (int f : new int[] {0, 7, 8, 9}) {
            for (int ab = 0; ab <= 99; ab++) {
                Due.due("judge(1, " + (100 * f + ab) + ")", x.judge(1, 100L * f + ab), 0);
            }
        }
        TimeFlood none = Given.read("F0810");
        for (long row : new long[] {200, 300, 400, 500, 600}) {
            Due.due("without nodes: " + row, none.judge(1, row), 0);
        }
        Due.due("without nodes: 199", none.judge(1, 199L), NONE);
    }

    @Says(in = "Promise 17", value = "beginning with the present state; nothing is changed by this")
    static void statementsAreOnTrialOnly() {
        TimeFlood x = Given.read(Given.LINE);
        x.period(6);
        Looks.unchanged("judge(4, ..)", x, y -> y.judge(4, 199200301101L));
        Due.due("present state", x.judge(1, 420L), NONE);
        Due.due("present state again", x.judge(4, 420302302420L), 3);
        Due.due("present state once more", x.judge(1, 420L), NONE);
    }

    @Says(in = "Promise 17", value = "Returns the index, from 0, of the first wrong statement; NONE if none is wrong")
    static void theFirstWrongStatement() {
        TimeFlood x = Given.read(Given.PAIR);
        Due.due("the first", x.judge(4, 0L), 0);
        Due.due("the second", x.judge(4, 101000000000L), 1);
        Due.due("the third", x.judge(4, 101101000101L), 2);
        Due.due("the fourth", x.judge(4, 101101101000L), 3);
        Due.due("none", x.judge(4, 101101101410L), NONE);
    }

    @Says(in = "Promise 17", value = "BAD if n or row is out of range")
    static void judgeOutOfRange() {
        TimeFlood x = Given.read(Given.PAIR);
        for (int n : new int[] {0, 5, -1, FAR[0], FAR[1]}) {
            Due.due("judge(" + n + ", 0)", x.judge(n, 0L), BAD);
        }
        for (long row : new long[] {-1L, 1000000000000L, Long.MIN_VALUE, Long.MAX_VALUE}) {
            Due.due("judge(4, " + row + ")", x.judge(4, row), BAD);
        }
        Due.due("a row is not cut to an int", x.judge(1, 101L + (1L << 32)), BAD);
    }
}
