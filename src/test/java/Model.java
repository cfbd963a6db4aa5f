import java.math.BigInteger;
import java.util.ArrayDeque;
import java.util.ArrayList;
import java.util.Arrays;
import java.util.Collections;
import java.util.Deque;
import java.util.HashMap;
import java.util.List;
import java.util.Map;
import java.util.TreeSet;
import java.util.regex.Pattern;

/**
 * The document once more, written as literally as possible and without regard for cost,
 * so that random runs have something independent to be compared with.
 */
final class Model {
    static final int UNKNOWN = -1, BAD = -2, LATE = -3, FULL = -4, NONE = -9;

    static final class Stamp {
        final int clock;
        final int mark;
        final int age;

        Stamp(int clock, int mark, int age) {
            this.clock = clock;
            this.mark = mark;
            this.age = age;
        }
    }

    static final class Node {
        boolean on = true;
        int drift;
        int start;
        Integer root = null;
        int number, heart, guard;
        List<Stamp> table = new ArrayList<>();

        Node copy() {
            Node n = new Node();
            n.on = on;
            n.drift = drift;
            n.start = start;
            n.root = root;
            n.number = number;
            n.heart = heart;
            n.guard = guard;
            n.table = new ArrayList<>(table);
            return n;
        }

        void power() {
            on = !on;
            if (on) {
                root = null;
                number = heart = guard = 0;
                table = new ArrayList<>();
            }
        }
    }

    static final class World {
        int unit = 8, patience = 1, shyness = 0, time = 0;
        List<Node> nodes = new ArrayList<>();
        List<TreeSet<Integer>> links = new ArrayList<>();
        TreeSet<Integer> down = new TreeSet<>();

        World copy() {
            World w = new World();
            w.unit = unit;
            w.patience = patience;
            w.shyness = shyness;
            w.time = time;
            for (Node n : nodes) {
                w.nodes.add(n.copy());
            }
            w.links = links;
            w.down = new TreeSet<>(down);
            return w;
        }

        int clock(int i) {
            Node n = nodes.get(i);
            return mod(16 * n.start + time + floor(BigInteger.valueOf((long) time * n.drift), BigInteger.valueOf(64)).intValue(), 1024);
        }

        boolean ownRoot(int i) {
            Integer root = nodes.get(i).root;
            return root != null && root.intValue() == i;
        }

        Integer estimate(int i) {
            Node node = nodes.get(i);
            int c = clock(i);
            if (ownRoot(i)) {
                return c;
            }
            if (node.table.isEmpty()) {
                return null;
            }
            Stamp last = node.table.get(node.table.size() - 1);
            BigInteger sumX = BigInteger.ZERO, sumY = BigInteger.ZERO, p = BigInteger.ZERO, q = BigInteger.ZERO;
            for (Stamp s : node.table) {
                BigInteger x = BigInteger.valueOf(near(s.clock - last.clock));
                BigInteger y = BigInteger.valueOf(near((s.mark - s.clock) - (last.mark - last.clock)));
                sumX = sumX.add(x);
                sumY = sumY.add(y);
                p = p.add(x.multiply(y));
                q = q.add(x.multiply(x));
            }
            BigInteger n = BigInteger.valueOf(node.table.size());
            BigInteger b = n.multiply(p).subtract(sumX.multiply(sumY));
            BigInteger e = n.multiply(q).subtract(sumX.multiply(sumX));
            BigInteger z;
            if (e.signum() == 0) {
                z = floor(sumY, n);
            } else {
                BigInteger ahead = BigInteger.valueOf(near(c - last.clock));
                BigInteger above = sumY.multiply(e).subtract(b.multiply(sumX)).add(n.multiply(b).multiply(ahead));
                z = floor(above, n.multiply(e));
            }
            return z.add(BigInteger.valueOf(c + last.mark - last.clock)).mod(BigInteger.valueOf(1024)).intValue();
        }

        void period() {
            time += unit;
            for (Node n : nodes) {
                if (n.on) {
                    List<Stamp> older = new ArrayList<>();
                    for (Stamp s : n.table) {
                        if (s.age + 1 <= 9) {
                            older.add(new Stamp(s.clock, s.mark, s.age + 1));
                        }
                    }
                    n.table = older;
                    n.heart++;
                    n.guard = n.guard > 0 ? n.guard - 1 : n.guard;
                }
            }
            for (int i = 0; i < nodes.size(); i++) {
                Node n = nodes.get(i);
                if (!n.on) {
                    continue;
                }
                if (ownRoot(i)) {
                    n.number = n.number == 63 ? 0 : n.number + 1;
                    n.heart = 0;
                } else if (n.heart > patience) {
                    n.root = i;
                    n.number = n.number == 63 ? 0 : n.number + 1;
                    n.heart = 0;
                    n.table = new ArrayList<>();
                    n.guard = shyness;
                }
            }
            Map<Integer, int[]> messages = new HashMap<>();
            for (int i = 0; i < nodes.size(); i++) {
                Node n = nodes.get(i);
                if (n.on && (ownRoot(i) || n.table.size() >= 2)) {
                    messages.put(i, new int[] {n.root, n.number, estimate(i)});
                }
            }
            for (int sender = 0; sender < nodes.size(); sender++) {
                if (!messages.containsKey(sender)) {
                    continue;
                }
                for (int k = 0; k < links.size(); k++) {
                    if (links.get(k).contains(sender) && !down.contains(k)) {
                        int other = links.get(k).first() == sender ? links.get(k).last() : links.get(k).first();
                        if (nodes.get(other).on) {
                            deliver(other, messages.get(sender));
                        }
                    }
                }
            }
        }

        private void deliver(int to, int[] message) {
            Node n = nodes.get(to);
            int r = message[0], m = message[1], g = message[2];
            boolean newRoot = n.root == null || r < n.root;
            if (ownRoot(to) && n.guard > 0) {
                newRoot = false;
            }
            if (newRoot) {
                n.root = r;
                n.table = new ArrayList<>();
            } else {
                int d = mod(m - n.number, 64);
                boolean news = n.root != null && n.root == r && !ownRoot(to) && 1 <= d && d <= 31;
                if (!news) {
                    return;
                }
            }
            n.number = m;
            n.heart = 0;
            if (n.table.size() == 4) {
                n.table.remove(0);
            }
            n.table.add(new Stamp(clock(to), g, 0));
        }

        void turn(int k) {
            if (!down.remove(k)) {
                down.add(k);
            }
        }

        Integer miss(int i) {
            Node n = nodes.get(i);
            if (!n.on || n.root == null || estimate(i) == null) {
                return null;
            }
            return near(estimate(i) - clock(n.root));
        }

        boolean inTime(int i) {
            Integer miss = miss(i);
            return miss != null && -3 <= miss && miss <= 3;
        }

        int inTimeCount() {
            int count = 0;
            for (int i = 0; i < nodes.size(); i++) {
                count += inTime(i) ? 1 : 0;
            }
            return count;
        }

        boolean united() {
            List<Integer> roots = new ArrayList<>();
            for (Node n : nodes) {
                if (n.on) {
                    roots.add(n.root);
                }
            }
            for (Integer r : roots) {
                if (r == null || !r.equals(roots.get(0))) {
                    return false;
                }
            }
            return true;
        }

        int root(int i) {
            Node n = nodes.get(i);
            return n.on && n.root != null ? n.root : NONE;
        }

        int property(int i, int what) {
            Node n = nodes.get(i);
            if (what >= 4 && what <= 10 && !n.on) {
                return NONE;
            }
            if (what == 0) {
                return n.drift + 4;
            }
            if (what == 1) {
                return n.start;
            }
            if (what == 2) {
                return clock(i);
            }
            if (what == 3) {
                return n.on ? 1 : 0;
            }
            if (what == 4) {
                return n.root == null ? NONE : n.root;
            }
            if (what == 5) {
                return n.number;
            }
            if (what == 6) {
                return n.heart;
            }
            if (what == 7) {
                return n.guard;
            }
            if (what == 8) {
                return n.table.size();
            }
            if (what == 9) {
                return estimate(i) == null ? NONE : estimate(i);
            }
            return miss(i) == null ? NONE : miss(i) + 1000;
        }
    }

    private String text = "";
    private World world = new World();
    private final Deque<World> past = new ArrayDeque<>();
    private final World[] slots = new World[2];
    private final List<int[]> seen = new ArrayList<>();
    private long seed = 0;

    static int mod(int a, int n) {
        return ((a % n) + n) % n;
    }

    static int near(int d) {
        int r = mod(d, 1024);
        return r >= 512 ? r - 1024 : r;
    }

    static BigInteger floor(BigInteger a, BigInteger b) {
        BigInteger[] parts = a.divideAndRemainder(b);
        return parts[1].signum() != 0 && parts[1].signum() != b.signum() ? parts[0].subtract(BigInteger.ONE) : parts[0];
    }

    // ---- the text

    private static final Pattern FORM =
            Pattern.compile("F(08|09|1[0-9]|2[0-9]|3[0-2])[1-9][0-9](n[0-9]([0-5][0-9]|6[0-3])|k[0-9][0-9])*");

    static World parsed(String text) {
        if (!FORM.matcher(text).matches()) {
            return null;
        }
        World w = new World();
        w.unit = Integer.parseInt(text.substring(1, 3));
        w.patience = text.charAt(3) - '0';
        w.shyness = text.charAt(4) - '0';
        int at = 5;
        while (at < text.length()) {
            if (text.charAt(at) == 'n') {
                Node n = new Node();
                n.drift = text.charAt(at + 1) - '0' - 4;
                n.start = Integer.parseInt(text.substring(at + 2, at + 4));
                w.nodes.add(n);
                at += 4;
            } else {
                TreeSet<Integer> pair = new TreeSet<>();
                pair.add(text.charAt(at + 1) - '0');
                pair.add(text.charAt(at + 2) - '0');
                if (pair.size() < 2 || pair.last() >= w.nodes.size() || w.links.contains(pair)) {
                    return null;
                }
                w.links.add(pair);
                at += 3;
            }
        }
        return w.nodes.size() > 5 || w.links.size() > 7 ? null : w;
    }

    /** Tries all ways to go on; an item lacks at most 3 characters, the head at most 5. */
    static boolean beginsNetwork(String text) {
        int lacking = text.length() < 5 ? 5 - text.length() : 3;
        return canBeCompleted(text, lacking);
    }

    private static boolean canBeCompleted(String text, int lacking) {
        if (parsed(text) != null) {
            return true;
        }
        if (lacking == 0) {
            return false;
        }
        for (char c : "0123456789Fnk".toCharArray()) {
            if (canBeCompleted(text + c, lacking - 1)) {
                return true;
            }
        }
        return false;
    }

    int write(int letter) {
        if (letter < 0 || letter > 255) {
            return BAD;
        }
        if (text.length() == 60) {
            return FULL;
        }
        text += (char) letter;
        return text.length();
    }

    int wipe() {
        int had = text.length();
        text = "";
        return had;
    }

    int fault() {
        if (parsed(text) != null) {
            return NONE;
        }
        for (int i = 0; i < text.length(); i++) {
            if (!beginsNetwork(text.substring(0, i + 1))) {
                return i;
            }
        }
        return text.length();
    }

    int net() {
        World read = parsed(text);
        if (read == null) {
            return LATE;
        }
        world = read;
        past.clear();
        Arrays.fill(slots, null);
        return world.nodes.size();
    }

    int about(int what) {
        int set = 0;
        switch (what) {
            case 0: return world.nodes.size();
            case 1: return world.links.size();
            case 2: return world.unit;
            case 3: return world.patience;
            case 4: return world.shyness;
            case 5: return world.time;
            case 6:
                for (int i = 0; i < world.nodes.size(); i++) {
                    set += world.nodes.get(i).on ? 1 << i : 0;
                }
                return set;
            case 7:
                for (int i = 0; i < world.nodes.size(); i++) {
                    set += world.nodes.get(i).on && world.ownRoot(i) ? 1 << i : 0;
                }
                return set;
            case 8:
                for (int i = 0; i < world.nodes.size(); i++) {
                    set += world.inTime(i) ? 1 << i : 0;
                }
                return set;
            case 9:
                for (int k : world.down) {
                    set += 1 << k;
                }
                return set;
            case 10: return world.united() ? 1 : 0;
            case 11: return past.size();
            case 12: return seen.size();
            case 13: return text.length();
            default: return BAD;
        }
    }

    private boolean isNode(int i) {
        return 0 <= i && i < world.nodes.size();
    }

    int node(int node, int what) {
        if (!isNode(node)) {
            return UNKNOWN;
        }
        return what < 0 || what > 10 ? BAD : world.property(node, what);
    }

    int stamp(int node, int i, int what) {
        if (!isNode(node)) {
            return UNKNOWN;
        }
        if (what < 0 || what > 2) {
            return BAD;
        }
        Node n = world.nodes.get(node);
        if (!n.on || i < 0 || i >= n.table.size()) {
            return NONE;
        }
        Stamp s = n.table.get(i);
        return new int[] {s.clock, s.mark, s.age}[what];
    }

    int link(int link, int what) {
        if (link < 0 || link >= world.links.size()) {
            return UNKNOWN;
        }
        if (what < 0 || what > 2) {
            return BAD;
        }
        return new int[] {world.links.get(link).first(), world.links.get(link).last(), world.down.contains(link) ? 1 : 0}[what];
    }

    private void act() {
        past.addLast(world);
        if (past.size() > 14) {
            past.removeFirst();
        }
        world = world.copy();
    }

    int period(int n) {
        if (n < 1 || n > 99) {
            return BAD;
        }
        act();
        for (int i = 0; i < n; i++) {
            world.period();
        }
        return world.inTimeCount();
    }

    int turn(int link) {
        if (link < 0 || link >= world.links.size()) {
            return UNKNOWN;
        }
        act();
        world.turn(link);
        return world.down.contains(link) ? 1 : 0;
    }

    int power(int node) {
        if (!isNode(node)) {
            return UNKNOWN;
        }
        act();
        world.nodes.get(node).power();
        return world.nodes.get(node).on ? 1 : 0;
    }

    int drift(int node, int d) {
        if (!isNode(node)) {
            return UNKNOWN;
        }
        if (d < -4 || d > 5) {
            return BAD;
        }
        act();
        world.nodes.get(node).drift = d;
        return world.clock(node);
    }

    int undo() {
        if (past.isEmpty()) {
            return LATE;
        }
        world = past.removeLast();
        return past.size();
    }

    private static World after(World from, int n) {
        World w = from.copy();
        for (int i = 0; i < n; i++) {
            w.period();
        }
        return w;
    }

    int ahead(int n, int node, int what) {
        if (!isNode(node)) {
            return UNKNOWN;
        }
        if (n < 0 || n > 99 || what < 2 || what > 10) {
            return BAD;
        }
        return after(world, n).property(node, what);
    }

    int agree() {
        World w = world.copy();
        for (int n = 0; n <= 60; n++) {
            if (w.united()) {
                return n;
            }
            w.period();
        }
        return NONE;
    }

    int judge(int n, long row) {
        if (n < 1 || n > 4 || row < 0 || BigInteger.valueOf(row).compareTo(BigInteger.TEN.pow(3 * n)) >= 0) {
            return BAD;
        }
        String digits = String.valueOf(row);
        while (digits.length() < 3 * n) {
            digits = "0" + digits;
        }
        World w = world.copy();
        for (int i = 0; i < n; i++) {
            int f = digits.charAt(3 * i) - '0', a = digits.charAt(3 * i + 1) - '0', b = digits.charAt(3 * i + 2) - '0';
            boolean right;
            if (f == 1 && 10 * a + b >= 1) {
                w = after(w, 10 * a + b);
                right = true;
            } else if (f == 2 && a == 0 && b < w.links.size()) {
                w.turn(b);
                right = true;
            } else if (f == 3 && a == 0 && isNode(b)) {
                w.nodes.get(b).power();
                right = true;
            } else if (f == 4 && isNode(a) && isNode(b)) {
                right = w.nodes.get(a).on && w.nodes.get(a).root != null && w.nodes.get(a).root == b;
            } else if (f == 5 && a == 0 && isNode(b)) {
                right = w.inTime(b);
            } else if (f == 6 && isNode(a)) {
                right = w.nodes.get(a).on && w.nodes.get(a).table.size() == b;
            } else {
                right = false;
            }
            if (!right) {
                return i;
            }
        }
        return NONE;
    }

    int see(int node, int n, int root) {
        if (!isNode(node)) {
            return UNKNOWN;
        }
        if (n < 0 || n > 20 || (root != NONE && !isNode(root))) {
            return BAD;
        }
        if (seen.size() == 6) {
            return FULL;
        }
        seen.add(new int[] {node, n, root});
        return seen.size();
    }

    int unsee() {
        int had = seen.size();
        seen.clear();
        return had;
    }

    int which() {
        int set = 0;
        for (int i = 0; i < world.nodes.size(); i++) {
            if (!world.nodes.get(i).on) {
                continue;
            }
            World failed = world.copy();
            failed.nodes.get(i).power();
            boolean all = true;
            for (int[] o : seen) {
                if (isNode(o[0])) {
                    boolean exists = o[2] == NONE || isNode(o[2]);
                    all = all && exists && after(failed, o[1]).root(o[0]) == o[2];
                }
            }
            set |= all ? 1 << i : 0;
        }
        return set;
    }

    private int worth(List<Integer> come) {
        World w = world.copy();
        for (int i = 0; i < w.nodes.size(); i++) {
            if (w.nodes.get(i).on && !come.contains(i)) {
                w.nodes.get(i).power();
            }
        }
        return after(w, 12).inTimeCount();
    }

    private void orders(List<Integer> rest, List<Integer> order, List<List<Integer>> all) {
        if (rest.isEmpty()) {
            all.add(new ArrayList<>(order));
        }
        for (Integer i : rest) {
            List<Integer> less = new ArrayList<>(rest);
            less.remove(i);
            order.add(i);
            orders(less, order, all);
            order.remove(order.size() - 1);
        }
    }

    private static int part(BigInteger upper, BigInteger lower, boolean wantUpper) {
        BigInteger g = upper.gcd(lower);
        return (wantUpper ? upper : lower).divide(g).intValueExact();
    }

    int share(int node, boolean upper) {
        if (!isNode(node)) {
            return UNKNOWN;
        }
        if (!world.nodes.get(node).on) {
            return LATE;
        }
        List<Integer> on = new ArrayList<>();
        for (int i = 0; i < world.nodes.size(); i++) {
            if (world.nodes.get(i).on) {
                on.add(i);
            }
        }
        List<List<Integer>> all = new ArrayList<>();
        orders(on, new ArrayList<>(), all);
        Map<List<Integer>, Integer> worths = new HashMap<>();
        int sum = 0;
        for (List<Integer> order : all) {
            List<Integer> before = new ArrayList<>(order.subList(0, order.indexOf(node)));
            List<Integer> with = new ArrayList<>(before);
            with.add(node);
            Collections.sort(before);
            Collections.sort(with);
            sum += worths.computeIfAbsent(with, this::worth) - worths.computeIfAbsent(before, this::worth);
        }
        return part(BigInteger.valueOf(sum), BigInteger.valueOf(all.size()), upper);
    }

    /** The chance, as a fraction of 10 to the number of links from k on that are up. */
    private BigInteger unitedChance(World w, int k, int n, int x) {
        if (k == w.links.size()) {
            return after(w, n).united() ? BigInteger.ONE : BigInteger.ZERO;
        }
        if (world.down.contains(k)) {
            return unitedChance(w, k + 1, n, x);
        }
        World fails = w.copy();
        fails.down.add(k);
        return unitedChance(fails, k + 1, n, x).multiply(BigInteger.valueOf(x))
                .add(unitedChance(w, k + 1, n, x).multiply(BigInteger.valueOf(10 - x)));
    }

    int chance(int n, int x, boolean upper) {
        if (n < 0 || n > 20 || x < 0 || x > 10) {
            return BAD;
        }
        return part(unitedChance(world, 0, n, x), BigInteger.TEN.pow(world.links.size() - world.down.size()), upper);
    }

    long seed(long v) {
        long had = seed;
        seed = v;
        return had;
    }

    int drawn(int m) {
        if (m < 1 || m > 20) {
            return BAD;
        }
        World w = world.copy();
        int sum = 0;
        BigInteger x = BigInteger.valueOf(seed);
        for (int i = 0; i < m; i++) {
            x = x.multiply(new BigInteger("6364136223846793005")).add(new BigInteger("1442695040888963407"));
            x = x.mod(BigInteger.ONE.shiftLeft(64));
            int v = x.shiftRight(33).intValueExact();
            if (!w.links.isEmpty() && v / 16 % 2 == 0) {
                w.turn(v % w.links.size());
            }
            w.period();
            sum += w.inTimeCount();
        }
        seed = x.longValue();
        return sum;
    }

    int keep(int slot) {
        if (slot != 0 && slot != 1) {
            return UNKNOWN;
        }
        slots[slot] = world.copy();
        return world.time;
    }

    int again(int slot) {
        if (slot != 0 && slot != 1) {
            return UNKNOWN;
        }
        if (slots[slot] == null) {
            return LATE;
        }
        world = slots[slot].copy();
        past.clear();
        return world.time;
    }
}
