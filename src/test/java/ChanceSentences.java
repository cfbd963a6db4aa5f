import java.math.BigInteger;

/** Shares, probabilities, seeds and draws: promises 21 to 24, and the fractions of "Errors". */
final class ChanceSentences {
    private static final int UNKNOWN = TimeFlood.UNKNOWN, BAD = TimeFlood.BAD, LATE = TimeFlood.LATE;
    private static final int[] FAR = {Integer.MIN_VALUE, Integer.MAX_VALUE};
    /** Node 2 follows node 0 from period 20 on. */
    private static final String LATE_LINE = "F0889n400n400n400k01k12";

    private ChanceSentences() {
    }

    private static void shareIs(TimeFlood x, int node, int upper, int lower) {
        Due.due("share(" + node + ", true)", x.share(node, true), upper);
        Due.due("share(" + node + ", false)", x.share(node, false), lower);
    }

    private static void chanceIs(TimeFlood x, int n, int p, int upper, int lower) {
        Due.due("chance(" + n + ", " + p + ", true)", x.chance(n, p, true), upper);
        Due.due("chance(" + n + ", " + p + ", false)", x.chance(n, p, false), lower);
    }

    // ---- Errors

    @Says(in = "Errors", value = "Fractions are in lowest terms with a denominator above 0")
    static void fractionsInLowestTerms() {
        TimeFlood x = Given.read(Given.PAIR);
        int[][] want = {{1, 1}, {9, 10}, {4, 5}, {7, 10}, {3, 5}, {1, 2}, {2, 5}, {3, 10}, {1, 5}, {1, 10}};
        for (int p = 0; p <= 9; p++) {
            chanceIs(x, 2, p, want[p][0], want[p][1]);
        }
        x = Given.read("F2480n300n700n500n000n800k02k12k13k24k34");
        x.period(12);
        x.power(0);
        shareIs(x, 2, -1, 3);
    }

    @Says(in = "Errors", value = "0 is 0 / 1.")
    static void nothingIs0By1() {
        TimeFlood x = Given.read(Given.PAIR);
        chanceIs(x, 1, 3, 0, 1);
        chanceIs(x, 2, 10, 0, 1);
        x = Given.read("F2955n400n900n100n800n300k01k12k14k23k24");
        shareIs(x, 1, 0, 1);
    }

    // ---- Promise 21: share

    @Says(in = "Promise 21", value = "all nodes that are on now come one by one, in their present states, in an "
            + "order in "
            + "which all orders are equally likely, where those that have not come are switched off")
    static void sharesOfOneNodeAndOfFive() {
        shareIs(Given.read("F0810n400"), 0, 1, 1);
        TimeFlood x = Given.read(Given.STAR);
        for (int node = 0; node < 5; node++) {
            shareIs(x, node, 1, 1);
        }
        x = Given.read("F3080n513n128n127n533n344k34k01k13k02");
        x.period(25);
        shareIs(x, 1, 4, 3);
        shareIs(x, 3, 5, 6);
        shareIs(x, 4, 5, 6);
        // All shares add up to the number of nodes that are in time then.
        int sum = 0;
        for (int node = 0; node < 5; node++) {
            sum += 60 * x.share(node, true) / x.share(node, false);
        }
        Looks.unchanged("share()", x, y -> y.share(0, true));
        Due.due("sum of shares", sum, 60 * x.period(12));
    }

    @Says(in = "Promise 21", value = "the number of nodes that are in time 12 periods from now")
    static void twelvePeriodsAndNot11Or13() {
        TimeFlood x = Given.read("F2988n417n915n033k01k12");
        x.period(6);
        // Node 2, the last of a line, is not in time just then.
        int[] in11 = {1000, 1000, 1000};
        int[] in12 = new int[3];
        for (int node = 0; node < 3; node++) {
            Due.due("in time in 11", Math.abs(x.ahead(11, node, 10) - in11[node]) <= 3 ? 1 : 0, 1);
            Due.due("in time in 13", Math.abs(x.ahead(13, node, 10) - in11[node]) <= 3 ? 1 : 0, 1);
            in12[node] = Math.abs(x.ahead(12, node, 10) - 1000) <= 3 ? 1 : 0;
            shareIs(x, node, 2, 3);
        }
        Due.due("in time in 12", in12[0] + in12[1] + in12[2], 2);
        // A pair of patience 9 is in time from period 10 on, with shyness 2 united from 12 on.
        shareIs(Given.read("F0892n400n410k01"), 1, 1, 1);
    }

    @Says(in = "Promise 21", value = "true for the numerator, which may be negative; false for the denominator")
    static void negativeShares() {
        TimeFlood x = Given.read("F3270n900n100n900n500n600k01k02k04k13k23k34");
        x.period(24);
        x.power(0);
        x.drift(2, -2);
        shareIs(x, 3, -5, 12);
        int sum = 0;
        for (int node = 1; node < 5; node++) {
            sum += 12 * x.share(node, true) / x.share(node, false);
        }
        Due.due("sum of shares", sum, 12 * x.period(12));
    }

    @Says(in = "Promise 21", value = "UNKNOWN if there is no such node")
    static void sharesOfNodesBeyondTheLast() {
        TimeFlood x = Given.read(Given.STAR);
        for (int node : new int[] {-1, 5, FAR[0], FAR[1]}) {
            Due.due("share(" + node + ", true)", x.share(node, true), UNKNOWN);
            Due.due("share(" + node + ", false)", x.share(node, false), UNKNOWN);
        }
        Due.due("share(0, true) of none", Given.read("F0810").share(0, true), UNKNOWN);
    }

    @Says(in = "Promise 21", value = "LATE if it is off")
    static void sharesOfNodesThatAreOff() {
        TimeFlood x = Given.read(Given.PAIR);
        x.power(1);
        Due.due("off, upper", x.share(1, true), LATE);
        Due.due("off, lower", x.share(1, false), LATE);
        shareIs(x, 0, 1, 1);
        x.power(1);
        shareIs(x, 1, 1, 1);
    }

    // ---- Promise 22: chance

    @Says(in = "Promise 22", value = "0 to 20")
    static void chancesAfter0To20Periods() {
        TimeFlood x = Given.read(LATE_LINE);
        chanceIs(x, 0, 0, 0, 1);
        chanceIs(x, 19, 0, 0, 1);
        chanceIs(x, 20, 0, 1, 1);
        chanceIs(x, 20, 1, 81, 100);
        x.period(20);
        chanceIs(x, 0, 0, 1, 1);
        chanceIs(x, 0, 10, 1, 1);
        chanceIs(x, 20, 10, 0, 1);
    }

    @Says(in = "Promise 22", value = "0 to 10")
    static void linksThatFailNeverOrSurely() {
        TimeFlood x = Given.read(Given.TRIANGLE);
        // Two of three links will do.
        int[][] want = {{1, 1}, {243, 250}, {112, 125}, {98, 125}, {81, 125}, {1, 2}, {44, 125}, {27, 125}, {13, 125},
            {7, 250}, {0, 1}};
        for (int p = 0; p <= 10; p++) {
            chanceIs(x, 12, p, want[p][0], want[p][1]);
        }
    }

    @Says(in = "Promise 22", value = "if each link that is up now is down from now on with the probability x / 10, "
            + "independently of the others")
    static void fromNoLinksToSeven() {
        chanceIs(Given.read("F0810"), 20, 5, 1, 1);
        chanceIs(Given.read("F0810n400"), 20, 5, 1, 1);
        chanceIs(Given.read("F0810n400n400"), 20, 5, 0, 1);
        TimeFlood x = Given.read(Given.FULL_NET);
        for (int p = 0; p <= 10; p++) {
            long sum = 0L;
            for (int failing = 0; failing < 128; failing++) {
                int lost = Integer.bitCount(failing);
                if (isConnected(failing)) {
                    sum += power(p, lost) * power(10 - p, 7 - lost);
                }
            }
            BigInteger upper = BigInteger.valueOf(sum);
            BigInteger lower = BigInteger.valueOf(10000000L);
            BigInteger common = upper.gcd(lower);
            chanceIs(x, 20, p, upper.divide(common).intValueExact(), lower.divide(common).intValueExact());
        }
        // Links that are down already stay so, surely.
        x = Given.read(Given.TRIANGLE);
        x.turn(0);
        chanceIs(x, 12, 1, 81, 100);
        x.turn(1);
        chanceIs(x, 12, 0, 0, 1);
        Looks.unchanged("chance()", x, y -> y.chance(12, 5, true));
    }

    private static long power(int base, int exponent) {
        long product = 1L;
        for (int i = 0; i < exponent; i++) {
            product *= base;
        }
        return product;
    }

    /** Whether the nodes of FULL_NET hold together without these links. */
    private static boolean isConnected(int failing) {
        int[][] links = {{0, 1}, {0, 2}, {0, 3}, {0, 4}, {1, 2}, {1, 3}, {1, 4}};
        int reached = 1;
        for (int round = 0; round < 5; round++) {
            for (int k = 0; k < 7; k++) {
                boolean touches = (reached >> links[k][0] & 1) == 1 || (reached >> links[k][1] & 1) == 1;
                if ((failing >> k & 1) == 0 && touches) {
                    reached |= 1 << links[k][0] | 1 << links[k][1];
                }
            }
        }
        return reached == 31;
    }

    @Says(in = "Promise 22", value = "BAD if n or x is out of range")
    static void chancesOutOfRange() {
        TimeFlood x = Given.read(Given.PAIR);
        for (int n : new int[] {-1, 21, FAR[0], FAR[1]}) {
            Due.due("chance(" + n + ", 0, true)", x.chance(n, 0, true), BAD);
            Due.due("chance(" + n + ", 0, false)", x.chance(n, 0, false), BAD);
        }
        for (int p : new int[] {-1, 11, FAR[0], FAR[1]}) {
            Due.due("chance(0, " + p + ", true)", x.chance(0, p, true), BAD);
            Due.due("chance(0, " + p + ", false)", x.chance(0, p, false), BAD);
        }
    }

    // ---- Promise 23: seed

    @Says(in = "Promise 23", value = "the new seed, any long")
    static void seedsOfAllSizes() {
        TimeFlood x = new TimeFlood();
        long[] seeds = {0L, 1L, -1L, Integer.MAX_VALUE + 1L, Long.MAX_VALUE, Long.MIN_VALUE, 0L};
        long before = 0L;
        for (long seed : seeds) {
            Due.due("seed(" + seed + ")", x.seed(seed), before);
            before = seed;
        }
    }

    @Says(in = "Promise 23", value = "Returns the previous seed.")
    static void theFirstPreviousSeedIs0() {
        TimeFlood x = new TimeFlood();
        Due.due("first", x.seed(-9L), 0L);
        Due.due("the same again", x.seed(-9L), -9L);
        Looks.unchanged("seed()", Given.read(Given.PAIR), y -> y.seed(5L));
    }

    // ---- Promise 24: drawn

    private static long next(long x) {
        BigInteger y = BigInteger.valueOf(x).multiply(new BigInteger("6364136223846793005"));
        return y.add(new BigInteger("1442695040888963407")).longValue();
    }

    /** Does by acts what drawn() simulates, and returns the seed that it would leave. */
    private static long drawnByActs(TimeFlood x, int m, long seed, int want) {
        long s = seed;
        int sum = 0;
        for (int i = 0; i < m; i++) {
            s = next(s);
            int v = (int) (s >>> 33);
            if (x.about(1) > 0 && v / 16 % 2 == 0) {
                x.turn(v % x.about(1));
            }
            sum += x.period(1);
        }
        Due.due("drawn(" + m + ") by " + seed, want, sum);
        return s;
    }

    /** Four nodes that hang on node 0 and run differently, so that it shows which link is down. */
    private static TimeFlood fan() {
        TimeFlood x = Given.read("F3290n400n900n000n700n500k01k02k03k04");
        x.period(10);
        return x;
    }

    @Says(in = "Promise 24", value = "the number of periods, 1 to 20")
    static void from1PeriodTo20() {
        for (int m = 1; m <= 20; m++) {
            TimeFlood x = fan();
            x.seed(m);
            int told = x.drawn(m);
            Due.due("seed then", x.seed(0L), drawnByActs(fan(), m, m, told));
        }
        Due.due("no nodes", new TimeFlood().drawn(20), 0);
    }

    @Says(in = "Promise 24", value = "x becomes x * 6364136223846793005 + 1442695040888963407 (long arithmetic, with "
            + "overflow); let v be x >>> 33 as an int")
    static void seedsThatOverflow() {
        for (long seed : new long[] {0L, 1L, -1L, Long.MAX_VALUE, Long.MIN_VALUE, 1L << 33, -(1L << 33)}) {
            TimeFlood x = fan();
            x.seed(seed);
            int told = x.drawn(20);
            long after = drawnByActs(fan(), 20, seed, told);
            Due.due("seed after " + seed, x.seed(0L), after);
        }
    }

    @Says(in = "Promise 24", value = "If there are links, and v / 16 (truncated) is even, the link with the "
            + "number v modulo "
            + "(the number of links) is turned, as by turn().")
    static void sixteenthsAndLinks() {
        // All of v modulo 32 and 4: 0 to 15 turn a link, 16 to 31 none.
        boolean[] met = new boolean[32];
        int left = 32;
        for (long seed = 1; seed <= 2000 && left > 0; seed++) {
            int v = (int) (next(seed) >>> 33);
            if (!met[v % 32]) {
                met[v % 32] = true;
                left--;
                TimeFlood x = fan();
                x.seed(seed);
                drawnByActs(fan(), 9, seed, x.drawn(9));
            }
        }
        Due.due("values of v modulo 32 that were not met", left, 0);
        // The only link there is.
        for (long seed = 1; seed <= 20; seed++) {
            TimeFlood[] alike = new TimeFlood[2];
            for (int i = 0; i < 2; i++) {
                alike[i] = Given.read("F3290n400n900k01");
                alike[i].period(10);
                alike[i].seed(seed);
            }
            drawnByActs(alike[1], 9, seed, alike[0].drawn(9));
        }
        TimeFlood none = Given.read("F0810n400n400");
        none.period(2);
        Due.due("without links", none.drawn(20), 40);
        Due.due("the seed moves all the same", none.seed(0L) == 0L ? 1 : 0, 0);
        TimeFlood seven = Given.read("F3230n400n900n000n700n500" + Given.FULL_NET.substring(25));
        seven.period(4);
        TimeFlood alike = Given.read("F3230n400n900n000n700n500" + Given.FULL_NET.substring(25));
        alike.period(4);
        seven.seed(4L);
        drawnByActs(alike, 20, 4L, seven.drawn(20));
    }

    @Says(in = "Promise 24", value = "beginning with the present state; only the seed is changed by this")
    static void drawnIsNoAct() {
        TimeFlood x = fan();
        x.turn(2);
        Looks.unchanged("drawn(20)", x, y -> y.drawn(20));
        TimeFlood y = fan();
        y.turn(2);
        x.seed(0L);
        drawnByActs(y, 7, 0L, x.drawn(7));
    }

    @Says(in = "Promise 24", value = "Returns the sum, over all these periods, of the number of nodes that are "
            + "in time after it")
    static void sumsFrom0To100() {
        TimeFlood x = Given.read("F0890n400n400n400n400n400");
        Due.due("9 periods before any root", x.drawn(9), 0);
        Due.due("the tenth brings five", x.drawn(10), 5);
        Due.due("and so on", x.drawn(12), 15);
        x.period(10);
        Due.due("1 period of five", x.drawn(1), 5);
        Due.due("20 periods of five", x.drawn(20), 100);
    }

    @Says(in = "Promise 24", value = "BAD if m is out of range")
    static void drawsOutOfRange() {
        TimeFlood x = Given.read(Given.PAIR);
        x.seed(6L);
        for (int m : new int[] {0, 21, -1, FAR[0], FAR[1]}) {
            Due.due("drawn(" + m + ")", x.drawn(m), BAD);
        }
        Due.due("the seed stays", x.seed(0L), 6L);
    }
}
