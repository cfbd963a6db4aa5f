import java.util.ArrayList;
import java.util.List;
import java.util.function.ToLongFunction;

/** Compares objects by all that can be read of them. */
final class Looks {
    private Looks() {
    }

    /** Every value that can be read without changing anything; at most some 160 calls. */
    static List<Long> at(TimeFlood x) {
        List<Long> seen = new ArrayList<>();
        for (int what = 0; what <= 13; what++) {
            seen.add((long) x.about(what));
        }
        seen.add((long) x.fault());
        for (int node = 0; node < x.about(0); node++) {
            for (int what = 0; what <= 10; what++) {
                seen.add((long) x.node(node, what));
            }
            for (int i = 0; i < 4; i++) {
                for (int what = 0; what <= 2; what++) {
                    seen.add((long) x.stamp(node, i, what));
                }
            }
        }
        for (int link = 0; link < x.about(1); link++) {
            for (int what = 0; what <= 2; what++) {
                seen.add((long) x.link(link, what));
            }
        }
        return seen;
    }

    /** The call leaves all that can be read as it was. */
    static void unchanged(String what, TimeFlood x, ToLongFunction<TimeFlood> call) {
        List<Long> before = at(x);
        call.applyAsLong(x);
        same(what + " changed something", at(x), before);
    }

    static void same(String what, List<Long> got, List<Long> want) {
        int differing = -1;
        for (int i = 0; i < Math.min(got.size(), want.size()) && differing < 0; i++) {
            if (!got.get(i).equals(want.get(i))) {
                differing = i;
            }
        }
        if (differing < 0 && got.size() != want.size()) {
            differing = Math.min(got.size(), want.size());
        }
        Due.due(what + ": first differing value", differing, -1);
    }
}
