/** Flooding time synchronization in a small network whose nodes elect a root. */
public final class TimeFlood {
    public static final int UNKNOWN = -1, BAD = -2, LATE = -3, FULL = -4, NONE = -9;

    private static final int MAX_TEXT = 60;
    private static final int MAX_NODES = 5;
    private static final int MAX_LINKS = 7;
    private static final int MAX_STAMPS = 4;
    private static final int MAX_AGE = 9;
    private static final int MAX_ACTS = 14;
    private static final int MAX_SIGHTINGS = 6;
    private static final int SLOTS = 2;
    private static final int LOWEST_DRIFT = -4;
    private static final int HIGHEST_DRIFT = 5;
    private static final int CLOCK_ROUND = 1024;
    private static final int NUMBER_ROUND = 64;
    private static final int SLACK = 3;
    // A miss may be -9 itself; moved up by this it never looks like NONE.
    private static final int MISS_BASE = 1000;
    private static final int MOST_AHEAD = 99;
    private static final int MOST_TO_AGREE = 60;
    private static final int MOST_SEEN = 20;
    private static final int MOST_DRAWN = 20;
    private static final int MOST_CHANCE = 20;
    private static final int SHARE_PERIODS = 12;
    private static final int MOST_STATEMENTS = 4;
    private static final int[] FACTORIALS = {1, 1, 2, 6, 24, 120};
    private static final long[] THOUSANDS = {1L, 1000L, 1000000L, 1000000000L, 1000000000000L};

    private final char[] text = new char[MAX_TEXT];
    private int textLength = 0;
    private final Reader reader = new Reader();
    private final Flood flood = new Flood();
    private final Plan plan = flood.plan;
    private final State now = new State();
    // Every question "what if" is answered on this one, so that no call makes objects.
    private final State trial = new State();
    private final Journal journal = new Journal();
    private final State[] slots = new State[SLOTS];
    private final boolean[] slotFilled = new boolean[SLOTS];
    private final Sightings sightings = new Sightings();
    private long seedNow = 0L;

    public TimeFlood() {
        for (int i = 0; i < SLOTS; i++) {
            slots[i] = new State();
        }
    }

    // ---- the net

    public int write(int letter) {
        if (letter < 0 || letter > 255) {
            return BAD;
        }
        if (textLength >= MAX_TEXT) {
            return FULL;
        }
        text[textLength] = (char) letter;
        textLength++;
        return textLength;
    }

    public int wipe() {
        int had = textLength;
        textLength = 0;
        return had;
    }

    public int fault() {
        return reader.read(text, textLength);
    }

    public int net() {
        if (reader.read(text, textLength) != NONE) {
            return LATE;
        }
        plan.copyFrom(reader.draft);
        now.begin(plan);
        journal.clear();
        for (int i = 0; i < SLOTS; i++) {
            slotFilled[i] = false;
        }
        return plan.nodeCount;
    }

    public int about(int what) {
        switch (what) {
            case 0: return plan.nodeCount;
            case 1: return plan.linkCount;
            case 2: return plan.unit;
            case 3: return plan.patience;
            case 4: return plan.shyness;
            case 5: return now.time;
            case 6: return now.onSet();
            case 7: return now.ownRootSet();
            case 8: return flood.inTimeSet(now);
            case 9: return now.downSet;
            case 10: return now.isUnited() ? 1 : 0;
            case 11: return journal.count;
            case 12: return sightings.count;
            case 13: return textLength;
            default: return BAD;
        }
    }

    public int node(int node, int what) {
        if (!hasNode(node)) {
            return UNKNOWN;
        }
        if (what < 0 || what > 10) {
            return BAD;
        }
        return flood.property(now, node, what);
    }

    public int stamp(int node, int i, int what) {
        if (!hasNode(node)) {
            return UNKNOWN;
        }
        if (what < 0 || what > 2) {
            return BAD;
        }
        if (!now.nodes[node].on) {
            return NONE;
        }
        return now.nodes[node].stampPart(i, what);
    }

    public int link(int link, int what) {
        if (!hasLink(link)) {
            return UNKNOWN;
        }
        switch (what) {
            case 0: return plan.lows[link];
            case 1: return plan.highs[link];
            case 2: return now.isDown(link) ? 1 : 0;
            default: return BAD;
        }
    }

    // ---- acts

    public int period(int n) {
        if (n < 1 || n > MOST_AHEAD) {
            return BAD;
        }
        journal.push(now);
        flood.passMany(now, n);
        return Integer.bitCount(flood.inTimeSet(now));
    }

    public int turn(int link) {
        if (!hasLink(link)) {
            return UNKNOWN;
        }
        journal.push(now);
        now.flipLink(link);
        return now.isDown(link) ? 1 : 0;
    }

    public int power(int node) {
        if (!hasNode(node)) {
            return UNKNOWN;
        }
        journal.push(now);
        now.nodes[node].flipPower();
        return now.nodes[node].on ? 1 : 0;
    }

    public int drift(int node, int d) {
        if (!hasNode(node)) {
            return UNKNOWN;
        }
        if (d < LOWEST_DRIFT || d > HIGHEST_DRIFT) {
            return BAD;
        }
        journal.push(now);
        now.nodes[node].drift = d;
        return flood.clock(now, node);
    }

    public int undo() {
        if (journal.count == 0) {
            return LATE;
        }
        journal.pop(now);
        return journal.count;
    }

    // ---- asked

    public int ahead(int n, int node, int what) {
        if (!hasNode(node)) {
            return UNKNOWN;
        }
        if (n < 0 || n > MOST_AHEAD || what < 2 || what > 10) {
            return BAD;
        }
        trial.copyFrom(now);
        flood.passMany(trial, n);
        return flood.property(trial, node, what);
    }

    public int agree() {
        trial.copyFrom(now);
        for (int n = 0; n <= MOST_TO_AGREE; n++) {
            if (trial.isUnited()) {
                return n;
            }
            flood.pass(trial);
        }
        return NONE;
    }

    public int judge(int n, long row) {
        if (n < 1 || n > MOST_STATEMENTS) {
            return BAD;
        }
        if (row < 0L || row >= THOUSANDS[n]) {
            return BAD;
        }
        trial.copyFrom(now);
        for (int i = 0; i < n; i++) {
            int statement = (int) (row / THOUSANDS[n - 1 - i] % 1000L);
            if (!holdsOnTrial(statement / 100, statement / 10 % 10, statement % 10)) {
                return i;
            }
        }
        return NONE;
    }

    // ---- seen

    public int see(int node, int n, int root) {
        if (!hasNode(node)) {
            return UNKNOWN;
        }
        if (n < 0 || n > MOST_SEEN || root != NONE && !hasNode(root)) {
            return BAD;
        }
        if (sightings.count >= MAX_SIGHTINGS) {
            return FULL;
        }
        sightings.add(node, n, root);
        return sightings.count;
    }

    public int unsee() {
        int had = sightings.count;
        sightings.count = 0;
        return had;
    }

    public int which() {
        int set = 0;
        for (int i = 0; i < plan.nodeCount; i++) {
            if (now.nodes[i].on && failureExplains(i)) {
                set |= 1 << i;
            }
        }
        return set;
    }

    // ---- shares, chances

    public int share(int node, boolean upper) {
        if (!hasNode(node)) {
            return UNKNOWN;
        }
        if (!now.nodes[node].on) {
            return LATE;
        }
        int others = now.onSet() & ~(1 << node);
        int otherCount = Integer.bitCount(others);
        long sum = 0L;
        for (int come = 0; come < 1 << MAX_NODES; come++) {
            if ((come & ~others) == 0) {
                int before = Integer.bitCount(come);
                int orders = FACTORIALS[before] * FACTORIALS[otherCount - before];
                sum += orders * (worth(come | 1 << node) - worth(come));
            }
        }
        return partOfFraction(sum, FACTORIALS[otherCount + 1], upper);
    }

    public int chance(int n, int x, boolean upper) {
        if (n < 0 || n > MOST_CHANCE || x < 0 || x > 10) {
            return BAD;
        }
        long sum = 0L;
        for (int failing = 0; failing < 1 << plan.linkCount; failing++) {
            if ((failing & now.downSet) == 0) {
                long weight = weightOfFailing(failing, x);
                if (weight != 0L && unitesWithout(failing, n)) {
                    sum += weight;
                }
            }
        }
        return partOfFraction(sum, tenToTheUpLinks(), upper);
    }

    public long seed(long v) {
        long had = seedNow;
        seedNow = v;
        return had;
    }

    public int drawn(int m) {
        if (m < 1 || m > MOST_DRAWN) {
            return BAD;
        }
        trial.copyFrom(now);
        int sum = 0;
        for (int i = 0; i < m; i++) {
            seedNow = seedNow * 6364136223846793005L + 1442695040888963407L;
            int v = (int) (seedNow >>> 33);
            if (plan.linkCount > 0 && v / 16 % 2 == 0) {
                trial.flipLink(v % plan.linkCount);
            }
            flood.pass(trial);
            sum += Integer.bitCount(flood.inTimeSet(trial));
        }
        return sum;
    }

    // ---- slots

    public int keep(int slot) {
        if (slot < 0 || slot >= SLOTS) {
            return UNKNOWN;
        }
        slots[slot].copyFrom(now);
        slotFilled[slot] = true;
        return now.time;
    }

    public int again(int slot) {
        if (slot < 0 || slot >= SLOTS) {
            return UNKNOWN;
        }
        if (!slotFilled[slot]) {
            return LATE;
        }
        now.copyFrom(slots[slot]);
        journal.clear();
        return now.time;
    }

    // ---- what the methods share

    private boolean hasNode(int node) {
        return node >= 0 && node < plan.nodeCount;
    }

    private boolean hasLink(int link) {
        return link >= 0 && link < plan.linkCount;
    }

    private boolean holdsOnTrial(int f, int a, int b) {
        switch (f) {
            case 1:
                flood.passMany(trial, 10 * a + b);
                return 10 * a + b > 0;
            case 2:
                if (a != 0 || !hasLink(b)) {
                    return false;
                }
                trial.flipLink(b);
                return true;
            case 3:
                if (a != 0 || !hasNode(b)) {
                    return false;
                }
                trial.nodes[b].flipPower();
                return true;
            case 4:
                return hasNode(a) && hasNode(b) && trial.shownRoot(a) == b;
            case 5:
                return a == 0 && hasNode(b) && flood.isInTime(trial, b);
            case 6:
                return hasNode(a) && trial.nodes[a].on && trial.nodes[a].stampCount == b;
            default:
                return false;
        }
    }

    private boolean failureExplains(int node) {
        trial.copyFrom(now);
        trial.nodes[node].on = false;
        for (int n = 0; n <= MOST_SEEN; n++) {
            if (sightings.contradict(trial, n, plan.nodeCount)) {
                return false;
            }
            flood.pass(trial);
        }
        return true;
    }

    private int worth(int come) {
        trial.copyFrom(now);
        trial.switchOffAllBut(come);
        flood.passMany(trial, SHARE_PERIODS);
        return Integer.bitCount(flood.inTimeSet(trial));
    }

    private boolean unitesWithout(int failing, int n) {
        trial.copyFrom(now);
        trial.downSet |= failing;
        flood.passMany(trial, n);
        return trial.isUnited();
    }

    /** The chance that just these links fail, times ten to the number of links that are up. */
    private long weightOfFailing(int failing, int x) {
        long weight = 1L;
        for (int i = 0; i < plan.linkCount; i++) {
            if (!now.isDown(i)) {
                weight *= (failing >> i & 1) == 1 ? x : 10 - x;
            }
        }
        return weight;
    }

    private long tenToTheUpLinks() {
        long product = 1L;
        for (int i = 0; i < plan.linkCount; i++) {
            if (!now.isDown(i)) {
                product *= 10L;
            }
        }
        return product;
    }

    private static int partOfFraction(long numerator, long denominator, boolean upper) {
        long part = upper ? numerator : denominator;
        long divisor = commonDivisor(Math.abs(numerator), denominator);
        return (int) (divisor > 1L ? part / divisor : part);
    }

    private static long commonDivisor(long a, long b) {
        long high = a;
        long low = b;
        // Euclid needs far fewer rounds than this for any long.
        for (int i = 0; i < 1000 && low != 0L; i++) {
            long rest = high % low;
            high = low;
            low = rest;
        }
        return high;
    }

    private static int near(int d) {
        int rest = Math.floorMod(d, CLOCK_ROUND);
        return rest >= CLOCK_ROUND / 2 ? rest - CLOCK_ROUND : rest;
    }

    /** What the text tells of the network; no act changes it. */
    private static final class Plan {
        int unit = 8;
        int patience = 1;
        int shyness = 0;
        int nodeCount = 0;
        int linkCount = 0;
        final int[] drifts = new int[MAX_NODES];
        final int[] starts = new int[MAX_NODES];
        final int[] lows = new int[MAX_LINKS];
        final int[] highs = new int[MAX_LINKS];
        /** The link between two nodes, or NONE. */
        final int[][] links = new int[MAX_NODES][MAX_NODES];

        void clear() {
            nodeCount = 0;
            linkCount = 0;
            for (int i = 0; i < MAX_NODES; i++) {
                for (int j = 0; j < MAX_NODES; j++) {
                    links[i][j] = NONE;
                }
            }
        }

        void copyFrom(Plan other) {
            clear();
            unit = other.unit;
            patience = other.patience;
            shyness = other.shyness;
            for (int i = 0; i < other.nodeCount; i++) {
                addNode(other.drifts[i], other.starts[i]);
            }
            for (int i = 0; i < other.linkCount; i++) {
                addLink(other.lows[i], other.highs[i]);
            }
        }

        void addNode(int drift, int start) {
            if (nodeCount < MAX_NODES) {
                drifts[nodeCount] = drift;
                starts[nodeCount] = start;
                nodeCount++;
            }
        }

        boolean addLink(int a, int b) {
            if (linkCount >= MAX_LINKS || !canLink(a, b)) {
                return false;
            }
            lows[linkCount] = Math.min(a, b);
            highs[linkCount] = Math.max(a, b);
            links[a][b] = linkCount;
            links[b][a] = linkCount;
            linkCount++;
            return true;
        }

        boolean canLink(int a, int b) {
            return a != b && a < nodeCount && b < nodeCount && links[a][b] == NONE;
        }

        boolean canLinkFrom(int a) {
            for (int b = 0; b < nodeCount; b++) {
                if (canLink(a, b)) {
                    return true;
                }
            }
            return false;
        }

        boolean canLinkAny() {
            return linkCount < MAX_LINKS && linkCount < nodeCount * (nodeCount - 1) / 2;
        }
    }

    /** Reads a text character by character into a draft of a plan. */
    private static final class Reader {
        private static final int AT_LETTER = 0, AT_UNIT_TENS = 1, AT_UNIT_ONES = 2, AT_PATIENCE = 3,
                AT_SHYNESS = 4, AT_ITEM = 5, AT_DRIFT = 6, AT_START_TENS = 7, AT_START_ONES = 8,
                AT_LINK_FROM = 9, AT_LINK_TO = 10;

        final Plan draft = new Plan();
        private int place = AT_LETTER;
        private int held = 0;
        private int heldDrift = 0;

        /** Returns the fault of the text, or NONE; then the draft is what the text tells. */
        int read(char[] text, int length) {
            draft.clear();
            place = AT_LETTER;
            for (int i = 0; i < length && i < text.length; i++) {
                if (!takes(text[i])) {
                    return i;
                }
            }
            return place == AT_ITEM ? NONE : length;
        }

        private boolean takes(char letter) {
            if (place == AT_LETTER) {
                place = AT_UNIT_TENS;
                return letter == 'F';
            }
            if (place == AT_ITEM) {
                return takesItem(letter);
            }
            if (letter < '0' || letter > '9') {
                return false;
            }
            int digit = letter - '0';
            return place < AT_ITEM ? takesOfHead(digit) : takesOfItem(digit);
        }

        private boolean takesItem(char letter) {
            if (letter == 'n') {
                place = AT_DRIFT;
                return draft.nodeCount < MAX_NODES;
            }
            place = AT_LINK_FROM;
            return letter == 'k' && draft.canLinkAny();
        }

        private boolean takesOfHead(int digit) {
            switch (place) {
                case AT_UNIT_TENS:
                    held = digit;
                    place = AT_UNIT_ONES;
                    return digit <= 3;
                case AT_UNIT_ONES:
                    draft.unit = 10 * held + digit;
                    place = AT_PATIENCE;
                    return draft.unit >= 8 && draft.unit <= 32;
                case AT_PATIENCE:
                    draft.patience = digit;
                    place = AT_SHYNESS;
                    return digit >= 1;
                default:
                    draft.shyness = digit;
                    place = AT_ITEM;
                    return true;
            }
        }

        private boolean takesOfItem(int digit) {
            switch (place) {
                case AT_DRIFT:
                    heldDrift = digit + LOWEST_DRIFT;
                    place = AT_START_TENS;
                    return true;
                case AT_START_TENS:
                    held = digit;
                    place = AT_START_ONES;
                    return digit <= 6;
                case AT_START_ONES:
                    draft.addNode(heldDrift, 10 * held + digit);
                    place = AT_ITEM;
                    return 10 * held + digit <= 63;
                case AT_LINK_FROM:
                    held = digit;
                    place = AT_LINK_TO;
                    return draft.canLinkFrom(digit);
                default:
                    place = AT_ITEM;
                    return draft.addLink(held, digit);
            }
        }
    }

    /** What periods and acts change in one node. */
    private static final class Node {
        boolean on = false;
        int drift = 0;
        int root = NONE;
        int number = 0;
        int heart = 0;
        int guard = 0;
        int stampCount = 0;
        private final int[] clocks = new int[MAX_STAMPS];
        private final int[] marks = new int[MAX_STAMPS];
        private final int[] ages = new int[MAX_STAMPS];

        void copyFrom(Node other) {
            on = other.on;
            drift = other.drift;
            root = other.root;
            number = other.number;
            heart = other.heart;
            guard = other.guard;
            stampCount = other.stampCount;
            System.arraycopy(other.clocks, 0, clocks, 0, MAX_STAMPS);
            System.arraycopy(other.marks, 0, marks, 0, MAX_STAMPS);
            System.arraycopy(other.ages, 0, ages, 0, MAX_STAMPS);
        }

        void forget() {
            root = NONE;
            number = 0;
            heart = 0;
            guard = 0;
            stampCount = 0;
        }

        void flipPower() {
            on = !on;
            if (on) {
                forget();
            }
        }

        int stampPart(int i, int what) {
            if (i < 0 || i >= stampCount || i >= MAX_STAMPS) {
                return NONE;
            }
            switch (what) {
                case 0: return clocks[i];
                case 1: return marks[i];
                default: return ages[i];
            }
        }

        void grow() {
            int left = 0;
            for (int i = 0; i < stampCount && i < MAX_STAMPS; i++) {
                if (ages[i] < MAX_AGE) {
                    clocks[left] = clocks[i];
                    marks[left] = marks[i];
                    ages[left] = ages[i] + 1;
                    left++;
                }
            }
            stampCount = left;
            heart++;
            if (guard > 0) {
                guard--;
            }
        }

        void lead(int self, Plan plan) {
            boolean claims = root != self && heart > plan.patience;
            if (claims) {
                root = self;
                stampCount = 0;
                guard = plan.shyness;
            }
            if (root == self) {
                number = (number + 1) % NUMBER_ROUND;
                heart = 0;
            }
        }

        boolean sends(int self) {
            return on && (root == self || stampCount >= 2);
        }

        boolean takesAsNewRoot(int self, int heardRoot) {
            boolean guarded = root == self && guard > 0;
            return !guarded && (root == NONE || heardRoot < root);
        }

        boolean takesAsNews(int self, int heardRoot, int heardNumber) {
            int progress = Math.floorMod(heardNumber - number, NUMBER_ROUND);
            return heardRoot == root && root != self && progress >= 1 && progress <= 31;
        }

        void store(int heardNumber, int clock, int mark) {
            number = heardNumber;
            heart = 0;
            if (stampCount >= MAX_STAMPS) {
                for (int i = 1; i < MAX_STAMPS; i++) {
                    clocks[i - 1] = clocks[i];
                    marks[i - 1] = marks[i];
                    ages[i - 1] = ages[i];
                }
                stampCount = MAX_STAMPS - 1;
            }
            clocks[stampCount] = clock;
            marks[stampCount] = mark;
            ages[stampCount] = 0;
            stampCount++;
        }

        int estimate(int self, int clock) {
            if (root == self) {
                return clock;
            }
            int n = Math.min(stampCount, MAX_STAMPS);
            if (n < 1) {
                return NONE;
            }
            int lastClock = clocks[n - 1];
            int offset = marks[n - 1] - lastClock;
            // The products of sums leave the range of int.
            long sumX = 0L;
            long sumY = 0L;
            long sumXY = 0L;
            long sumXX = 0L;
            for (int i = 0; i < n; i++) {
                int x = near(clocks[i] - lastClock);
                int y = near(marks[i] - clocks[i] - offset);
                sumX += x;
                sumY += y;
                sumXY += x * y;
                sumXX += x * x;
            }
            long b = n * sumXY - sumX * sumY;
            long e = n * sumXX - sumX * sumX;
            long z = e == 0L
                    ? Math.floorDiv(sumY, (long) n)
                    : Math.floorDiv(sumY * e - b * sumX + n * b * near(clock - lastClock), n * e);
            return (int) Math.floorMod(clock + offset + z, (long) CLOCK_ROUND);
        }
    }

    /** All that acts change, so that it can be copied, undone and tried out as a whole. */
    private static final class State {
        int time = 0;
        int downSet = 0;
        final Node[] nodes = new Node[MAX_NODES];

        State() {
            for (int i = 0; i < MAX_NODES; i++) {
                nodes[i] = new Node();
            }
        }

        void copyFrom(State other) {
            time = other.time;
            downSet = other.downSet;
            for (int i = 0; i < MAX_NODES; i++) {
                nodes[i].copyFrom(other.nodes[i]);
            }
        }

        /** Nodes that the plan does not have are off, so that sets and counts pass over them. */
        void begin(Plan plan) {
            time = 0;
            downSet = 0;
            for (int i = 0; i < MAX_NODES; i++) {
                nodes[i].forget();
                nodes[i].on = i < plan.nodeCount;
                nodes[i].drift = plan.drifts[i];
            }
        }

        boolean isDown(int link) {
            return (downSet >> link & 1) == 1;
        }

        void flipLink(int link) {
            downSet ^= 1 << link;
        }

        void switchOffAllBut(int set) {
            for (int i = 0; i < MAX_NODES; i++) {
                if ((set >> i & 1) == 0) {
                    nodes[i].on = false;
                }
            }
        }

        int shownRoot(int node) {
            return nodes[node].on ? nodes[node].root : NONE;
        }

        int onSet() {
            int set = 0;
            for (int i = 0; i < MAX_NODES; i++) {
                if (nodes[i].on) {
                    set |= 1 << i;
                }
            }
            return set;
        }

        int ownRootSet() {
            int set = 0;
            for (int i = 0; i < MAX_NODES; i++) {
                if (shownRoot(i) == i) {
                    set |= 1 << i;
                }
            }
            return set;
        }

        boolean isUnited() {
            int common = NONE;
            for (int i = 0; i < MAX_NODES; i++) {
                if (nodes[i].on) {
                    int root = nodes[i].root;
                    if (root == NONE || common != NONE && root != common) {
                        return false;
                    }
                    common = root;
                }
            }
            return true;
        }
    }

    /** Lets periods pass in a state, and tells what depends on clocks. */
    private static final class Flood {
        final Plan plan = new Plan();
        private final boolean[] sent = new boolean[MAX_NODES];
        private final int[] sentRoots = new int[MAX_NODES];
        private final int[] sentNumbers = new int[MAX_NODES];
        private final int[] sentEstimates = new int[MAX_NODES];

        void passMany(State state, int n) {
            for (int i = 0; i < n; i++) {
                pass(state);
            }
        }

        void pass(State state) {
            state.time += plan.unit;
            for (int i = 0; i < plan.nodeCount; i++) {
                Node node = state.nodes[i];
                if (node.on) {
                    node.grow();
                    node.lead(i, plan);
                }
                // All messages are fixed before any is received.
                sent[i] = node.sends(i);
                if (sent[i]) {
                    sentRoots[i] = node.root;
                    sentNumbers[i] = node.number;
                    sentEstimates[i] = node.estimate(i, clock(state, i));
                }
            }
            for (int i = 0; i < plan.nodeCount; i++) {
                if (state.nodes[i].on) {
                    receive(state, i);
                }
            }
        }

        private void receive(State state, int to) {
            for (int from = 0; from < plan.nodeCount; from++) {
                if (sent[from]) {
                    int link = plan.links[from][to];
                    if (link != NONE && !state.isDown(link)) {
                        hear(state, to, from);
                    }
                }
            }
        }

        private void hear(State state, int to, int from) {
            Node node = state.nodes[to];
            if (node.takesAsNewRoot(to, sentRoots[from])) {
                node.root = sentRoots[from];
                node.stampCount = 0;
                node.store(sentNumbers[from], clock(state, to), sentEstimates[from]);
            } else if (node.takesAsNews(to, sentRoots[from], sentNumbers[from])) {
                node.store(sentNumbers[from], clock(state, to), sentEstimates[from]);
            }
        }

        int clock(State state, int node) {
            int gained = Math.floorDiv(state.time * state.nodes[node].drift, 64);
            return Math.floorMod(16 * plan.starts[node] + state.time + gained, CLOCK_ROUND);
        }

        int shiftedMiss(State state, int node) {
            int root = state.shownRoot(node);
            if (root < 0 || root >= plan.nodeCount) {
                return NONE;
            }
            int estimate = state.nodes[node].estimate(node, clock(state, node));
            if (estimate == NONE) {
                return NONE;
            }
            return near(estimate - clock(state, root)) + MISS_BASE;
        }

        boolean isInTime(State state, int node) {
            int miss = shiftedMiss(state, node);
            return miss >= MISS_BASE - SLACK && miss <= MISS_BASE + SLACK;
        }

        int inTimeSet(State state) {
            int set = 0;
            for (int i = 0; i < plan.nodeCount; i++) {
                if (isInTime(state, i)) {
                    set |= 1 << i;
                }
            }
            return set;
        }

        int property(State state, int at, int what) {
            Node node = state.nodes[at];
            if (what >= 4 && !node.on) {
                return NONE;
            }
            switch (what) {
                case 0: return node.drift - LOWEST_DRIFT;
                case 1: return plan.starts[at];
                case 2: return clock(state, at);
                case 3: return node.on ? 1 : 0;
                case 4: return node.root;
                case 5: return node.number;
                case 6: return node.heart;
                case 7: return node.guard;
                case 8: return node.stampCount;
                case 9: return node.estimate(at, clock(state, at));
                default: return shiftedMiss(state, at);
            }
        }
    }

    /** The states before the latest acts, in a ring. */
    private static final class Journal {
        private final State[] states = new State[MAX_ACTS];
        private int next = 0;
        int count = 0;

        Journal() {
            for (int i = 0; i < MAX_ACTS; i++) {
                states[i] = new State();
            }
        }

        void clear() {
            count = 0;
        }

        void push(State state) {
            states[next].copyFrom(state);
            next = (next + 1) % MAX_ACTS;
            count = Math.min(count + 1, MAX_ACTS);
        }

        void pop(State into) {
            if (count > 0) {
                next = (next + MAX_ACTS - 1) % MAX_ACTS;
                count--;
                into.copyFrom(states[next]);
            }
        }
    }

    /** The observations. They outlive the network, so their nodes may be gone. */
    private static final class Sightings {
        private final int[] nodes = new int[MAX_SIGHTINGS];
        private final int[] periods = new int[MAX_SIGHTINGS];
        private final int[] roots = new int[MAX_SIGHTINGS];
        int count = 0;

        void add(int node, int n, int root) {
            if (count < MAX_SIGHTINGS) {
                nodes[count] = node;
                periods[count] = n;
                roots[count] = root;
                count++;
            }
        }

        /** A root that is gone needs no test of its own: no node has it. */
        boolean contradict(State state, int n, int nodeCount) {
            for (int i = 0; i < count; i++) {
                boolean due = periods[i] == n && nodes[i] < nodeCount;
                if (due && state.shownRoot(nodes[i]) != roots[i]) {
                    return true;
                }
            }
            return false;
        }
    }
}
