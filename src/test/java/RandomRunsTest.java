import java.util.ArrayList;
import java.util.List;
import java.util.Random;

/** Random runs of calls, each call asked of the class and of the model. */
public final class RandomRunsTest {
    private static final int RUNS = 1000;
    private static final int[] OFTEN = {4, 4, 4, 5, 5, 5, 6, 7, 8, 8, 8, 9, 10, 10, 10, 10, 10, 10, 11, 11, 12, 12, 13,
        14, 15, 15, 16, 17, 17, 18, 18, 19, 20, 20, 21, 22, 23, 24, 25, 26};

    private final Random random;
    private final TimeFlood real = new TimeFlood();
    private final Model model = new Model();
    private final List<String> told = new ArrayList<>();
    private int nodes = 0;

    private RandomRunsTest(long seed) {
        random = new Random(seed);
    }

    public static void main(String[] args) {
        int runs = args.length > 1 ? Integer.parseInt(args[1]) : RUNS;
        int failed = 0;
        for (int run = 0; run < runs && failed < 3; run++) {
            RandomRunsTest test = new RandomRunsTest(run);
            if (!test.passes()) {
                failed++;
                System.out.println("run " + run + ":");
                for (String line : test.told) {
                    System.out.println("  " + line);
                }
            }
        }
        System.out.println(failed == 0 ? runs + " runs as the model" : "some runs not as the model");
        if (failed != 0) {
            System.exit(1);
        }
    }

    private boolean passes() {
        // An object is used for at most 512 calls; the dearest step here takes some 160 of them.
        while (told.size() < 350) {
            if (told.isEmpty() || random.nextInt(100) == 0) {
                String text = random.nextInt(5) == 0 ? spoiled(network()) : network();
                if (!same("wipe()", real.wipe(), model.wipe()) || !types(text)) {
                    return false;
                }
                if (!same("fault()", real.fault(), model.fault()) || !same("net()", real.net(), model.net())) {
                    return false;
                }
                nodes = model.about(0);
            } else {
                if (!call(random.nextInt(12) == 0 ? 1 + random.nextInt(26) : OFTEN[random.nextInt(OFTEN.length)])) {
                    return false;
                }
            }
        }
        return true;
    }

    private boolean same(String call, long got, long want) {
        told.add(call + " answered " + got + (got == want ? "" : ", due is " + want));
        return got == want;
    }

    private boolean types(String text) {
        for (char c : text.toCharArray()) {
            if (!same("write(" + (int) c + ")", real.write(c), model.write(c))) {
                return false;
            }
        }
        return true;
    }

    private String network() {
        int unit = random.nextBoolean() ? 32 - random.nextInt(4) : 8 + random.nextInt(25);
        StringBuilder s = new StringBuilder("F");
        s.append(unit / 10).append(unit % 10).append(1 + random.nextInt(random.nextBoolean() ? 3 : 9));
        s.append(random.nextInt(random.nextBoolean() ? 3 : 10));
        int count = random.nextInt(8) == 0 ? random.nextInt(6) : 3 + random.nextInt(3);
        List<int[]> pairs = new ArrayList<>();
        int links = 0;
        int most = random.nextInt(3) == 0 ? random.nextInt(8) : 7;
        for (int i = 0; i < count; i++) {
            int start = random.nextInt(64);
            s.append('n').append(random.nextInt(10)).append(start / 10).append(start % 10);
            for (int j = 0; j < i; j++) {
                pairs.add(random.nextBoolean() ? new int[] {i, j} : new int[] {j, i});
            }
            boolean last = i == count - 1;
            while (!pairs.isEmpty() && links < most && (last || random.nextInt(3) == 0)) {
                int[] pair = pairs.remove(random.nextInt(pairs.size()));
                s.append('k').append(pair[0]).append(pair[1]);
                links++;
            }
        }
        return s.toString();
    }

    private String spoiled(String text) {
        StringBuilder s = new StringBuilder(text);
        int at = random.nextInt(s.length() + 1);
        String letters = "0123456789Fnknknk 0123x";
        char c = random.nextInt(10) == 0 ? (char) random.nextInt(256) : letters.charAt(random.nextInt(letters.length()));
        switch (random.nextInt(4)) {
            case 0:
                s.insert(at, c);
                break;
            case 1:
                s.setLength(at);
                break;
            case 2:
                s.append(random.nextBoolean() ? "n000" : "k01");
                break;
            default:
                s.setCharAt(Math.min(at, s.length() - 1), c);
        }
        return s.length() > 60 ? s.substring(0, 60) : s.toString();
    }

    /** Mostly from low to high, now and then beyond. */
    private int within(int low, int high) {
        int odd = random.nextInt(30);
        if (odd == 0) {
            return random.nextBoolean() ? low - 1 : high + 1;
        }
        if (odd == 1) {
            return new int[] {-9, Integer.MIN_VALUE, Integer.MAX_VALUE, 64, 1000}[random.nextInt(5)];
        }
        return high < low ? low : low + random.nextInt(high - low + 1);
    }

    private int aNode() {
        return within(0, Math.max(0, nodes - 1));
    }

    private int aLink() {
        return within(0, Math.max(0, model.about(1) - 1));
    }

    private boolean call(int promise) {
        switch (promise) {
            case 2: case 3:
                int letter = within(0, 255);
                return same("write(" + letter + ")", real.write(letter), model.write(letter));
            case 4:
                return random.nextInt(4) == 0 ? looksAround() : same("fault()", real.fault(), model.fault());
            case 5: {
                int i = aNode(), what = within(0, 10);
                return same("node(" + i + ", " + what + ")", real.node(i, what), model.node(i, what));
            }
            case 6: {
                int what = within(0, 13);
                return same("about(" + what + ")", real.about(what), model.about(what));
            }
            case 7: {
                int k = aLink(), what = within(0, 2);
                return same("link(" + k + ", " + what + ")", real.link(k, what), model.link(k, what));
            }
            case 8: case 9: {
                int i = aNode(), s = within(0, 3), what = within(0, 2);
                return same("stamp(" + i + ", " + s + ", " + what + ")", real.stamp(i, s, what), model.stamp(i, s, what));
            }
            case 10: {
                int n = random.nextInt(5) == 0 ? within(1, 99) : within(1, 6);
                return same("period(" + n + ")", real.period(n), model.period(n));
            }
            case 11: {
                int k = aLink();
                return same("turn(" + k + ")", real.turn(k), model.turn(k));
            }
            case 12: {
                int i = aNode();
                return same("power(" + i + ")", real.power(i), model.power(i));
            }
            case 13: {
                int i = aNode(), d = within(-4, 5);
                return same("drift(" + i + ", " + d + ")", real.drift(i, d), model.drift(i, d));
            }
            case 14: return same("undo()", real.undo(), model.undo());
            case 15: {
                int n = random.nextInt(3) == 0 ? within(0, 99) : within(0, 15), i = aNode(), what = within(2, 10);
                return same("ahead(" + n + ", " + i + ", " + what + ")", real.ahead(n, i, what), model.ahead(n, i, what));
            }
            case 16: return same("agree()", real.agree(), model.agree());
            case 17: return judges();
            default: return callLater(promise);
        }
    }

    private boolean callLater(int promise) {
        switch (promise) {
            case 18: {
                int i = aNode(), n = within(0, 20);
                int root = random.nextBoolean() ? likelyRoot(i, n) : random.nextInt(4) == 0 ? -9 : aNode();
                return same("see(" + i + ", " + n + ", " + root + ")", real.see(i, n, root), model.see(i, n, root));
            }
            case 19:
                return random.nextInt(3) != 0 || same("unsee()", real.unsee(), model.unsee());
            case 20: return same("which()", real.which(), model.which());
            case 21: {
                int i = aNode();
                return same("share(" + i + ", true)", real.share(i, true), model.share(i, true))
                    && same("share(" + i + ", false)", real.share(i, false), model.share(i, false));
            }
            case 22: {
                int n = within(0, 20), x = within(0, 10);
                return same("chance(" + n + ", " + x + ", true)", real.chance(n, x, true), model.chance(n, x, true))
                    && same("chance(" + n + ", " + x + ", false)", real.chance(n, x, false), model.chance(n, x, false));
            }
            case 23: {
                long v = random.nextLong() >> random.nextInt(64);
                return same("seed(" + v + ")", real.seed(v), model.seed(v));
            }
            case 24: {
                int m = within(1, 20);
                return same("drawn(" + m + ")", real.drawn(m), model.drawn(m));
            }
            case 25: {
                int slot = within(0, 1);
                return same("keep(" + slot + ")", real.keep(slot), model.keep(slot));
            }
            default: {
                int slot = within(0, 1);
                return same("again(" + slot + ")", real.again(slot), model.again(slot));
            }
        }
    }

    /** What would be seen if some node failed, so that which() finds something at times. */
    private int likelyRoot(int node, int n) {
        if (nodes == 0 || n < 0 || n > 20 || node < 0 || node >= nodes) {
            return -9;
        }
        int failing = random.nextInt(nodes);
        if (model.node(failing, 3) == 0) {
            return model.ahead(n, node, 4);
        }
        int kept = -9;
        for (int root = 0; root < nodes; root++) {
            long switched = 300 + failing;
            long row = n == 0 ? switched * 1000 + 400 + 10 * node + root
                    : (switched * 1000 + 100 + n) * 1000 + 400 + 10 * node + root;
            if (model.judge(n == 0 ? 2 : 3, row) == -9) {
                kept = root;
            }
        }
        return kept;
    }

    private boolean judges() {
        int n = within(1, 4);
        long row = 0;
        for (int i = 0; i < n && i < 4; i++) {
            row = row * 1000 + statement();
        }
        if (random.nextInt(20) == 0) {
            row = random.nextBoolean() ? -row - 1 : random.nextInt(1000) * 1000000000L + random.nextInt(1000000000);
        }
        return same("judge(" + n + ", " + row + ")", real.judge(n, row), model.judge(n, row));
    }

    private int statement() {
        int many = Math.max(1, nodes);
        if (random.nextInt(15) == 0) {
            return random.nextInt(1000);
        }
        switch (1 + random.nextInt(6)) {
            case 1: return 100 + random.nextInt(random.nextBoolean() ? 100 : 12);
            case 2: return 200 + random.nextInt(Math.max(1, model.about(1)));
            case 3: return 300 + random.nextInt(many);
            case 4: return 400 + 10 * random.nextInt(many) + random.nextInt(2);
            case 5: return 500 + random.nextInt(many);
            default: return 600 + 10 * random.nextInt(many) + random.nextInt(5);
        }
    }

    /** The whole state at once: whatever an earlier call broke shows here. */
    private boolean looksAround() {
        for (int what = 0; what <= 13; what++) {
            if (!same("about(" + what + ")", real.about(what), model.about(what))) {
                return false;
            }
        }
        for (int i = 0; i < nodes; i++) {
            for (int what = 0; what <= 10; what++) {
                if (!same("node(" + i + ", " + what + ")", real.node(i, what), model.node(i, what))) {
                    return false;
                }
            }
            for (int s = -1; s <= 4; s++) {
                for (int what = 0; what <= 2; what++) {
                    String call = "stamp(" + i + ", " + s + ", " + what + ")";
                    if (!same(call, real.stamp(i, s, what), model.stamp(i, s, what))) {
                        return false;
                    }
                }
            }
        }
        return same("fault()", real.fault(), model.fault());
    }
}
