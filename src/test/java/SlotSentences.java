import java.util.List;

/** Slots, and how long an object is used: promises 25 and 26, and "What it is". */
final class SlotSentences {
    private static final int UNKNOWN = TimeFlood.UNKNOWN, LATE = TimeFlood.LATE, NONE = TimeFlood.NONE;
    private static final int[] BEYOND = {-1, 2, Integer.MIN_VALUE, Integer.MAX_VALUE};

    private SlotSentences() {
    }

    // ---- What it is

    @Says(in = "What it is", value = "An object is used for at most 512 calls after it has been made")
    static void the512thCallAnswersAsTheFirst() {
        // 9 calls of write(), net() and 501 of period(): what is asked then is the 512th call.
        for (int what = 0; what <= 1; what++) {
            TimeFlood x = Given.typed("F3210n963");
            x.net();
            for (int i = 0; i < 501; i++) {
                x.period(99);
            }
            int t = 501 * 99 * 32;
            if (what == 0) {
                Due.due("the time", x.about(5), t);
            } else {
                Due.due("the clock", x.node(0, 2), (1008 + t + t * 5 / 64) % 1024);
            }
        }
    }

    // ---- Promise 25: keep

    @Says(in = "Promise 25", value = "Saves the nodes with their drifts and states, which links are down, and "
            + "the time in a "
            + "slot, in place of what is there.")
    static void aSlotKeepsAllAndTheLatest() {
        TimeFlood x = Given.read("F1619n400n810n463k01k12");
        x.period(4);
        x.keep(0);
        x.period(3);
        x.turn(1);
        x.power(2);
        x.drift(1, -4);
        Due.due("guard", x.node(1, 7), 4);
        List<Long> then = withoutActs(x);
        x.keep(0);
        x.turn(1);
        x.turn(0);
        x.power(2);
        x.drift(1, 5);
        x.period(30);
        x.again(0);
        Looks.same("what was kept last", withoutActs(x), then);
    }

    /** All that can be read but how many acts can be undone. */
    private static List<Long> withoutActs(TimeFlood x) {
        List<Long> seen = Looks.at(x);
        seen.set(11, 0L);
        return seen;
    }

    @Says(in = "Promise 25", value = "the slot, 0 or 1")
    static void twoSlots() {
        TimeFlood x = Given.read(Given.PAIR);
        x.period(1);
        x.keep(0);
        x.period(1);
        x.keep(1);
        x.period(1);
        Due.due("again(0)", x.again(0), 8);
        Due.due("again(1)", x.again(1), 16);
        Due.due("again(0) once more", x.again(0), 8);
    }

    @Says(in = "Promise 25", value = "Returns the time")
    static void whatKeepReturns() {
        TimeFlood x = Given.read("F3210n400");
        Due.due("at first", x.keep(0), 0);
        x.period(99);
        Due.due("then", x.keep(0), 3168);
        Due.due("in the other", x.keep(1), 3168);
        Due.due("of a new object", new TimeFlood().keep(1), 0);
        Looks.unchanged("keep()", x, y -> y.keep(1));
    }

    @Says(in = "Promise 25", value = "UNKNOWN if there is no such slot")
    static void keepBeyondTheSlots() {
        TimeFlood x = Given.read(Given.PAIR);
        for (int slot : BEYOND) {
            Due.due("keep(" + slot + ")", x.keep(slot), UNKNOWN);
        }
        Due.due("again(0)", x.again(0), LATE);
        Due.due("again(1)", x.again(1), LATE);
    }

    // ---- Promise 26: again

    @Says(in = "Promise 26", value = "Restores what is saved in a slot, which keeps it.")
    static void aSlotIsRestoredManyTimes() {
        TimeFlood x = Given.read(Given.GAIN);
        x.period(4);
        x.keep(1);
        for (int i = 1; i <= 4; i++) {
            x.period(i);
            x.drift(1, i);
            x.turn(0);
            Due.due("again", x.again(1), 64);
            Due.due("drift", x.node(1, 0), 8);
            Due.due("estimate", x.node(1, 9), 64);
            Due.due("stamps", x.node(1, 8), 3);
            Due.due("down", x.about(9), 0);
        }
        x.see(0, 0, 0);
        x.seed(7L);
        x.write('n');
        x.again(1);
        Due.due("observations stay", x.about(12), 1);
        Due.due("the seed stays", x.seed(0L), 7);
        Due.due("the text stays", x.about(13), 17);
        // A new object may be kept and restored as well.
        TimeFlood y = new TimeFlood();
        y.keep(0);
        y.period(1);
        Due.due("again of nothing", y.again(0), 0);
        Due.due("time", y.about(5), 0);
    }

    @Says(in = "Promise 26", value = "the slot, 0 or 1")
    static void eachSlotHasItsOwn() {
        TimeFlood x = Given.read(Given.STAR);
        x.power(4);
        x.keep(0);
        x.power(0);
        x.keep(1);
        Due.due("again(0)", x.again(0), 0);
        Due.due("on by slot 0", x.about(6), 15);
        Due.due("again(1)", x.again(1), 0);
        Due.due("on by slot 1", x.about(6), 14);
    }

    @Says(in = "Promise 26", value = "Nothing can be undone then.")
    static void noUndoAfterAgain() {
        TimeFlood x = Given.read(Given.PAIR);
        x.period(1);
        x.keep(0);
        x.period(1);
        x.again(0);
        Due.due("acts", x.about(11), 0);
        Due.due("undo", x.undo(), LATE);
        Due.due("time", x.about(5), 8);
        x.turn(0);
        Due.due("a new act", x.undo(), 0);
        Due.due("the slot is no act", x.undo(), LATE);
    }

    @Says(in = "Promise 26", value = "Returns the time then")
    static void whatAgainReturns() {
        TimeFlood x = Given.read("F3210n400");
        x.keep(0);
        x.period(99);
        x.keep(1);
        Due.due("again(0)", x.again(0), 0);
        Due.due("time", x.about(5), 0);
        Due.due("again(1)", x.again(1), 3168);
        Due.due("time", x.about(5), 3168);
    }

    @Says(in = "Promise 26", value = "UNKNOWN if there is no such slot")
    static void againBeyondTheSlots() {
        TimeFlood x = Given.read(Given.PAIR);
        x.keep(0);
        x.keep(1);
        for (int slot : BEYOND) {
            Due.due("again(" + slot + ")", x.again(slot), UNKNOWN);
        }
    }

    @Says(in = "Promise 26", value = "LATE if the slot is empty")
    static void emptySlots() {
        TimeFlood x = Given.read(Given.PAIR);
        Due.due("again(0)", x.again(0), LATE);
        Due.due("again(1)", x.again(1), LATE);
        x.keep(1);
        Due.due("again(0) then", x.again(0), LATE);
        Due.due("again(1) then", x.again(1), 0);
        x.net();
        Due.due("again(1) after net", x.again(1), LATE);
        Due.due("root", x.node(0, 4), NONE);
    }
}
