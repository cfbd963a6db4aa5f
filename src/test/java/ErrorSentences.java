import java.util.ArrayList;
import java.util.LinkedHashMap;
import java.util.List;
import java.util.Map;
import java.util.function.Function;
import java.util.function.Supplier;
import java.util.function.ToLongFunction;

/** Errors, their order, and what they leave as it is; sets: "Errors". */
final class ErrorSentences {
    private static final int UNKNOWN = TimeFlood.UNKNOWN, BAD = TimeFlood.BAD, LATE = TimeFlood.LATE,
            FULL = TimeFlood.FULL, NONE = TimeFlood.NONE;

    private ErrorSentences() {
    }

    @Says(in = "Errors", value = "The error codes are UNKNOWN (-1: there is no such node, link or slot), BAD "
            + "(-2: another argument is out of its range), LATE (-3: the call is not possible, as told there) and "
            + "FULL (-4: there is no room).")
    static void theCodes() {
        TimeFlood x = Given.read(Given.PAIR);
        Due.due("node", x.node(2, 0), -1);
        Due.due("link", x.link(1, 0), -1);
        Due.due("slot", x.keep(2), -1);
        Due.due("argument", x.about(14), -2);
        Due.due("not possible", x.undo(), -3);
        for (int i = 0; i < 6; i++) {
            x.see(0, 0, 0);
        }
        Due.due("no room", x.see(0, 0, 0), -4);
        Due.due("none", x.node(0, 4), -9);
    }

    @Says(in = "Errors", value = "Each method lists its errors in the order in which they are checked, and returns the "
            + "first one that applies.")
    static void theFirstErrorOfSeveral() {
        TimeFlood x = Given.read(Given.PAIR);
        Due.due("node: UNKNOWN before BAD", x.node(2, 11), UNKNOWN);
        Due.due("stamp: UNKNOWN before BAD", x.stamp(2, 0, 3), UNKNOWN);
        Due.due("link: UNKNOWN before BAD", x.link(1, 3), UNKNOWN);
        Due.due("drift: UNKNOWN before BAD", x.drift(2, 6), UNKNOWN);
        Due.due("ahead: UNKNOWN before BAD", x.ahead(100, 2, 11), UNKNOWN);
        Due.due("see: UNKNOWN before BAD", x.see(2, 21, 2), UNKNOWN);
        Due.due("again: UNKNOWN before LATE", x.again(2), UNKNOWN);
        for (int i = 0; i < 6; i++) {
            x.see(0, 0, 0);
        }
        Due.due("see: UNKNOWN before FULL", x.see(2, 0, 0), UNKNOWN);
        Due.due("see: UNKNOWN before BAD and FULL", x.see(2, 21, 2), UNKNOWN);
        Due.due("see: BAD for n before FULL", x.see(0, 21, 0), BAD);
        Due.due("see: BAD for the root before FULL", x.see(0, 0, 2), BAD);
        Due.due("see: FULL", x.see(0, 0, 0), FULL);
        while (x.write('F') != FULL) {
            continue;
        }
        Due.due("write: BAD before FULL", x.write(256), BAD);
        Due.due("write: BAD below 0 before FULL", x.write(-1), BAD);
    }

    @Says(in = "Errors", value = "NONE (-9) is not an error; it is returned only if no error applies.")
    static void noneOnlyWithoutErrors() {
        TimeFlood x = Given.read(Given.PAIR);
        x.power(1);
        Due.due("node that is off", x.node(1, 9), NONE);
        Due.due("node that is off, BAD", x.node(1, 11), BAD);
        Due.due("stamp of a node that is off", x.stamp(1, 0, 2), NONE);
        Due.due("stamp of a node that is off, BAD", x.stamp(1, 0, 3), BAD);
        Due.due("stamp that is not there, BAD", x.stamp(0, 4, 3), BAD);
        Due.due("forecast of a node that is off, BAD", x.ahead(100, 1, 4), BAD);
    }

    @Says(in = "Errors", value = "Sets are ints in which bit k is 1 if k belongs to the set.")
    static void bitsFrom0To6() {
        TimeFlood x = Given.read(Given.FULL_NET);
        for (int link = 0; link < 7; link++) {
            x.turn(link);
            Due.due("down: " + link, x.about(9), 1 << link);
            x.turn(link);
        }
        for (int node = 0; node < 5; node++) {
            x.power(node);
            Due.due("on without " + node, x.about(6), 31 - (1 << node));
            x.power(node);
        }
        Due.due("failed", x.which(), 31);
    }

    // ---- A call that returns an error changes nothing.

    private static void put(Map<String, ToLongFunction<TimeFlood>> calls, int error, String name,
            ToLongFunction<TimeFlood> call) {
        calls.put(error + " by " + name, call);
    }

    /** What worn() must refuse, with its error. */
    private static Map<String, ToLongFunction<TimeFlood>> refused() {
        Map<String, ToLongFunction<TimeFlood>> calls = new LinkedHashMap<>();
        put(calls, BAD, "write(-1)", x -> x.write(-1));
        put(calls, BAD, "write(256)", x -> x.write(256));
        put(calls, FULL, "write(70)", x -> x.write(70));
        put(calls, LATE, "net()", x -> x.net());
        put(calls, BAD, "about(-1)", x -> x.about(-1));
        put(calls, BAD, "about(14)", x -> x.about(14));
        for (int out : new int[] {-1, 4, Integer.MIN_VALUE, Integer.MAX_VALUE}) {
            put(calls, UNKNOWN, "node(" + out + ", 0)", x -> x.node(out, 0));
            put(calls, UNKNOWN, "stamp(" + out + ", 0, 0)", x -> x.stamp(out, 0, 0));
            put(calls, UNKNOWN, "link(" + out + ", 0)", x -> x.link(out, 0));
            put(calls, UNKNOWN, "turn(" + out + ")", x -> x.turn(out));
            put(calls, UNKNOWN, "power(" + out + ")", x -> x.power(out));
            put(calls, UNKNOWN, "drift(" + out + ", 0)", x -> x.drift(out, 0));
            put(calls, UNKNOWN, "ahead(0, " + out + ", 2)", x -> x.ahead(0, out, 2));
            put(calls, UNKNOWN, "see(" + out + ", 0, 0)", x -> x.see(out, 0, 0));
            put(calls, UNKNOWN, "share(" + out + ", true)", x -> x.share(out, true));
            put(calls, UNKNOWN, "keep(" + out + ")", x -> x.keep(out));
            put(calls, UNKNOWN, "again(" + out + ")", x -> x.again(out));
        }
        put(calls, BAD, "node(0, 11)", x -> x.node(0, 11));
        put(calls, BAD, "stamp(0, 0, 3)", x -> x.stamp(0, 0, 3));
        put(calls, BAD, "link(0, 3)", x -> x.link(0, 3));
        put(calls, BAD, "period(0)", x -> x.period(0));
        put(calls, BAD, "period(100)", x -> x.period(100));
        put(calls, BAD, "drift(0, -5)", x -> x.drift(0, -5));
        put(calls, BAD, "drift(0, 6)", x -> x.drift(0, 6));
        put(calls, BAD, "ahead(-1, 0, 2)", x -> x.ahead(-1, 0, 2));
        put(calls, BAD, "ahead(100, 0, 2)", x -> x.ahead(100, 0, 2));
        put(calls, BAD, "ahead(0, 0, 1)", x -> x.ahead(0, 0, 1));
        put(calls, BAD, "ahead(0, 0, 11)", x -> x.ahead(0, 0, 11));
        put(calls, BAD, "judge(0, 0)", x -> x.judge(0, 0L));
        put(calls, BAD, "judge(5, 0)", x -> x.judge(5, 0L));
        put(calls, BAD, "judge(1, -1)", x -> x.judge(1, -1L));
        put(calls, BAD, "judge(1, 1000)", x -> x.judge(1, 1000L));
        put(calls, BAD, "see(0, -1, 0)", x -> x.see(0, -1, 0));
        put(calls, BAD, "see(0, 21, 0)", x -> x.see(0, 21, 0));
        put(calls, BAD, "see(0, 0, 4)", x -> x.see(0, 0, 4));
        put(calls, BAD, "see(0, 0, -1)", x -> x.see(0, 0, -1));
        put(calls, FULL, "see(0, 0, 0)", x -> x.see(0, 0, 0));
        put(calls, LATE, "share(2, true)", x -> x.share(2, true));
        put(calls, BAD, "chance(-1, 0, true)", x -> x.chance(-1, 0, true));
        put(calls, BAD, "chance(21, 0, true)", x -> x.chance(21, 0, true));
        put(calls, BAD, "chance(0, -1, true)", x -> x.chance(0, -1, true));
        put(calls, BAD, "chance(0, 11, true)", x -> x.chance(0, 11, true));
        put(calls, BAD, "drawn(0)", x -> x.drawn(0));
        put(calls, BAD, "drawn(21)", x -> x.drawn(21));
        put(calls, LATE, "again(1)", x -> x.again(1));
        return calls;
    }

    /** All there is room for: a full text with a fault, 14 acts to be undone, 6 observations, one slot. */
    private static TimeFlood worn() {
        TimeFlood x = Given.typed("F3223n400n610n963n020k01k12k23k02");
        x.net();
        x.seed(99L);
        for (int i = 0; i < 6; i++) {
            x.see(i % 4, 5 * (i % 5), i % 2 == 0 ? NONE : i % 4);
        }
        x.period(9);
        x.turn(1);
        x.power(3);
        x.drift(2, -4);
        x.keep(0);
        x.period(3);
        x.power(2);
        for (int i = 0; i < 10; i++) {
            x.turn(i % 4);
            x.period(1);
        }
        while (x.write('n') > 0) {
            continue;
        }
        return x;
    }

    private static List<Long> answers(TimeFlood x, int undone) {
        List<Long> seen = new ArrayList<>();
        for (int i = 0; i < undone; i++) {
            seen.add((long) x.undo());
        }
        seen.addAll(Looks.at(x));
        return seen;
    }

    /** Ways to bring to light what cannot be read at once. */
    private static List<Function<TimeFlood, List<Long>>> probes() {
        List<Function<TimeFlood, List<Long>>> probes = new ArrayList<>();
        probes.add(x -> answers(x, 0));
        probes.add(x -> answers(x, 1));
        probes.add(x -> answers(x, 7));
        probes.add(x -> answers(x, 14));
        for (int slot = 0; slot <= 1; slot++) {
            int which = slot;
            probes.add(x -> {
                long first = x.again(which);
                List<Long> seen = answers(x, 1);
                seen.add(first);
                return seen;
            });
        }
        probes.add(x -> {
            List<Long> seen = new ArrayList<>();
            seen.add((long) x.which());
            seen.add((long) x.agree());
            seen.add((long) x.drawn(9));
            seen.add(x.seed(0L));
            seen.add((long) x.chance(9, 3, true));
            seen.add((long) x.period(7));
            seen.addAll(Looks.at(x));
            return seen;
        });
        return probes;
    }

    private static void changesNothing(String name, Supplier<TimeFlood> made, ToLongFunction<TimeFlood> call,
            long error) {
        for (Function<TimeFlood, List<Long>> probe : probes()) {
            TimeFlood x = made.get();
            Due.due(name, call.applyAsLong(x), error);
            Looks.same(name + " changed something", probe.apply(x), probe.apply(made.get()));
        }
    }

    @Says(in = "Errors", value = "A call that returns an error changes nothing.")
    static void refusedCallsChangeNothing() {
        refused().forEach((name, call) ->
                changesNothing(name, ErrorSentences::worn, call, Long.parseLong(name.substring(0, 2))));
        Supplier<TimeFlood> restored = () -> {
            TimeFlood x = worn();
            x.again(0);
            return x;
        };
        changesNothing("undo() of nothing", restored, x -> x.undo(), LATE);
        changesNothing("net() of an empty text", () -> {
            TimeFlood x = worn();
            x.wipe();
            return x;
        }, x -> x.net(), LATE);
        changesNothing("node() of a new object", TimeFlood::new, x -> x.node(0, 0), UNKNOWN);
        changesNothing("net() of a new object", TimeFlood::new, x -> x.net(), LATE);
    }
}
