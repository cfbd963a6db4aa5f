/** Objects that tests begin with. */
final class Given {
    /** Two nodes; both claim the root in period 2, and node 1 follows node 0 at once. */
    static final String PAIR = "F0810n400n410k01";
    /** The same with shyness 2: node 1 resists for two periods. */
    static final String SHY = "F0812n400n410k01";
    /** Node 1 gains a tick in 16; a period is 16. */
    static final String GAIN = "F1610n400n810k01";
    /** With patience 9 both claim the root in period 10. */
    static final String PATIENT = "F0890n400n410k01";
    static final String LINE = "F0810n400n400n400k01k12";
    static final String TRIANGLE = "F0810n400n400n400k01k12k02";
    /** Five nodes, of which 1 to 4 follow node 0 from period 2 on. */
    static final String STAR = "F0810n400n400n400n400n400k01k02k03k04";
    /** As many nodes and links as there may be. */
    static final String FULL_NET = "F0810n400n400n400n400n400k01k02k03k04k12k13k14";

    private Given() {
    }

    static TimeFlood typed(String text) {
        TimeFlood x = new TimeFlood();
        type(x, text);
        return x;
    }

    static void type(TimeFlood x, String text) {
        for (char c : text.toCharArray()) {
            x.write(c);
        }
    }

    static TimeFlood read(String text) {
        TimeFlood x = typed(text);
        Due.due("net() of " + text, x.net() >= 0 ? 1 : 0, 1);
        return x;
    }

    static void reread(TimeFlood x, String text) {
        x.wipe();
        type(x, text);
        x.net();
    }

    /** Lets many periods pass, in as few calls as can be. */
    static void pass(TimeFlood x, int periods) {
        for (int left = periods; left > 0; left -= 99) {
            x.period(Math.min(left, 99));
        }
    }

    /** Switches a node off and on, so that it begins anew. */
    static void restart(TimeFlood x, int node) {
        x.power(node);
        x.power(node);
    }

    /** Turns links until just those of the set are down. */
    static void downIs(TimeFlood x, int set) {
        int differing = x.about(9) ^ set;
        for (int k = 0; k < 7; k++) {
            if ((differing >> k & 1) == 1) {
                x.turn(k);
            }
        }
    }
}
