import java.util.Arrays;

/**
 * Probes on a board: points of nets that may be reached at once, most nets with least force; the
 * order in which they are flown to, a fixture's text; parts between nets with spans, guards; which
 * nets explain failed rows.
 */
public final class ProbeChoice {
    /** There is none. */
    public static final int NONE = -1;

    private static final int MOST_NETS = 12;
    private static final int POINTS_A_NET = 3;
    private static final int MOST_POINTS = MOST_NETS * POINTS_A_NET;
    private static final int MOST_LOOKED_AT = 8;
    private static final int MOST_SLOTS = MOST_LOOKED_AT * POINTS_A_NET;
    private static final int PARTS_A_PAIR = 4;
    private static final int ROW_BASE = 16;
    private static final int ENDS = 2;
    private static final int LOW_END = 0;
    private static final int HIGH_END = 1;
    private static final long FARTHEST = 1_000_000L;
    private static final long WIDEST = 100_000L;
    private static final long MOST_GAP = 1_000_000L;
    private static final long MOST_FORCE = 1_000_000L;
    private static final long MOST_RESISTANCE = 1_000L;
    /** More than the forces of all probes of a run together, so that one probe more always wins. */
    private static final long PROBE_WORTH = MOST_LOOKED_AT * MOST_FORCE + 1;
    private static final int MOST_DIGITS = 7;
    /** A line is at most p, 2 digits, space, sign and 7 digits, space, sign and 7 digits, line feed. */
    private static final int MOST_LETTERS = MOST_LOOKED_AT * 22;
    /** Far above the steps that Euclid's way needs for numbers below 10 to the 12th. */
    private static final int MOST_DIVISIONS = 200;

    private final Board board;
    private final Search search;
    private final Fixture fixture;
    private final Parts parts;
    private final Rows rows;

    public ProbeChoice() {
        board = new Board();
        search = new Search();
        fixture = new Fixture();
        parts = new Parts();
        rows = new Rows();
    }

    public int net(boolean must) {
        return board.addNet(must);
    }

    public int point(int net, long x, long y, long r)
            throws IndexOutOfBoundsException, IllegalArgumentException {
        needNet(net);
        if (!isWithin(x, -FARTHEST, FARTHEST) || !isWithin(y, -FARTHEST, FARTHEST)) {
            throw new IllegalArgumentException("no place");
        }
        if (!isWithin(r, 1, WIDEST)) {
            throw new IllegalArgumentException("no radius");
        }
        return board.addPoint(net, x, y, r);
    }

    public boolean gap(long v) throws IllegalArgumentException {
        if (!isWithin(v, 0, MOST_GAP)) {
            throw new IllegalArgumentException("no gap");
        }
        return board.setGap(v);
    }

    public int run(long nodes) throws IllegalArgumentException {
        if (!isWithin(nodes, 0, MOST_LOOKED_AT)) {
            throw new IllegalArgumentException("not so many nets");
        }
        search.choose(board, (int) nodes);
        fixture.build(board, search);
        return fixture.probeCount;
    }

    public int probe(int k) {
        return nth(fixture.probes, fixture.probeCount, k);
    }

    public boolean proved() {
        return fixture.sawAll;
    }

    public int out(int k) {
        return nth(fixture.left, fixture.leftCount, k);
    }

    public boolean part(int netA, int netB, long low, long high)
            throws IndexOutOfBoundsException, IllegalArgumentException {
        needNet(netA);
        needNet(netB);
        if (!isWithin(low, 1, MOST_RESISTANCE) || !isWithin(high, low, MOST_RESISTANCE)) {
            throw new IllegalArgumentException("no resistances");
        }
        return netA != netB && parts.add(netA, netB, low, high);
    }

    public long span(int netA, int netB, int end, int part)
            throws IndexOutOfBoundsException, IllegalStateException {
        needNet(netA);
        needNet(netB);
        if (!isWithin(end, 0, 1) || !isWithin(part, 0, 1)) {
            throw new IndexOutOfBoundsException("no such end or part");
        }
        if (!parts.areBetween(netA, netB)) {
            throw new IllegalStateException("no parts");
        }
        return parts.termOfSpan(netA, netB, end, part);
    }

    public int guard(int netA, int netB, int k) throws IndexOutOfBoundsException {
        needNet(netA);
        needNet(netB);
        return nthBit(parts.joinedToBoth(netA, netB), k);
    }

    public boolean fail(int row) throws IndexOutOfBoundsException {
        if (row < 0) {
            throw new IndexOutOfBoundsException("no such row");
        }
        int netA = row / ROW_BASE;
        int netB = row % ROW_BASE;
        needNet(netA);
        needNet(netB);
        return netA != netB && rows.add(netA, netB);
    }

    public int suspects() {
        return Integer.bitCount(rows.smallestCover());
    }

    public int suspect(int k, int what) throws IndexOutOfBoundsException {
        int found = nthBit(rows.smallestCover(), k);
        if (found == NONE || !isWithin(what, 0, 1)) {
            throw new IndexOutOfBoundsException("no such suspect or what");
        }
        return what == 0 ? found : rows.countOf(found);
    }

    public int faults(int k) throws IndexOutOfBoundsException {
        needNet(k);
        return rows.countOf(k);
    }

    public int fly(int k) {
        return nth(fixture.flown, fixture.probeCount, k);
    }

    public long seconds() {
        return fixture.flightTime;
    }

    public boolean force(int point, long v)
            throws IndexOutOfBoundsException, IllegalArgumentException {
        if (!board.hasPoint(point)) {
            throw new IndexOutOfBoundsException("no such point");
        }
        if (!isWithin(v, 0, MOST_FORCE)) {
            throw new IllegalArgumentException("no force");
        }
        return board.setForce(point, v);
    }

    public long forces() {
        return fixture.sumOfForces(board);
    }

    public int text(int i) throws IndexOutOfBoundsException {
        if (i < 0) {
            throw new IndexOutOfBoundsException("no such character");
        }
        return fixture.letterAt(i);
    }

    public int order(int k) {
        return nth(fixture.sorted, fixture.probeCount, k);
    }

    private void needNet(int net) {
        if (!board.hasNet(net)) {
            throw new IndexOutOfBoundsException("no such net");
        }
    }

    private static boolean isWithin(long v, long least, long most) {
        return v >= least && v <= most;
    }

    private static int nth(int[] row, int count, int k) {
        return k >= 0 && k < count && k < row.length ? row[k] : NONE;
    }

    /** The k-th net of a set of nets, rising; NONE when there are not so many. */
    private static int nthBit(int nets, int k) {
        int before = 0;
        for (int net = 0; net < MOST_NETS; net++) {
            if (hasBit(nets, net)) {
                if (before == k) {
                    return net;
                }
                before++;
            }
        }
        return NONE;
    }

    private static boolean hasBit(int set, int bit) {
        return (set >> bit & 1) != 0;
    }

    /** The nets and their points. */
    private static final class Board {
        private final boolean[] must = new boolean[MOST_NETS];
        private final int[] sizes = new int[MOST_NETS];
        private final int[] pointsOfNets = new int[MOST_POINTS];
        private final long[] xs = new long[MOST_POINTS];
        private final long[] ys = new long[MOST_POINTS];
        private final long[] radii = new long[MOST_POINTS];
        private final long[] weights = new long[MOST_POINTS];
        private int netCount;
        private int pointCount;
        private long apart;

        boolean hasNet(int net) {
            return net >= 0 && net < netCount;
        }

        boolean hasPoint(int point) {
            return point >= 0 && point < pointCount;
        }

        int addNet(boolean mustBeReached) {
            if (netCount >= MOST_NETS) {
                return NONE;
            }
            must[netCount] = mustBeReached;
            netCount++;
            return netCount - 1;
        }

        int addPoint(int net, long x, long y, long r) {
            if (sizes[net] >= POINTS_A_NET || pointCount >= MOST_POINTS) {
                return NONE;
            }
            int point = pointCount;
            xs[point] = x;
            ys[point] = y;
            radii[point] = r;
            pointsOfNets[net * POINTS_A_NET + sizes[net]] = point;
            sizes[net]++;
            pointCount++;
            return point;
        }

        boolean setGap(long v) {
            boolean other = v != apart;
            apart = v;
            return other;
        }

        boolean setForce(int point, long v) {
            boolean other = v != weights[point];
            weights[point] = v;
            return other;
        }

        int countOfMust() {
            int count = 0;
            for (int net = 0; net < netCount; net++) {
                if (must[net]) {
                    count++;
                }
            }
            return count;
        }

        /** Squares are compared, so that no root is rounded: they stay below 10 to the 13th. */
        boolean canBothBeProbes(int a, int b) {
            long least = apart + radii[a] + radii[b];
            return squareOfWay(a, xs[b], ys[b]) >= least * least;
        }

        long squareOfWay(int point, long x, long y) {
            long wide = xs[point] - x;
            long high = ys[point] - y;
            return wide * wide + high * high;
        }

        boolean isBeforeByPlace(int a, int b) {
            if (xs[a] != xs[b]) {
                return xs[a] < xs[b];
            }
            return ys[a] != ys[b] ? ys[a] < ys[b] : a < b;
        }
    }

    /**
     * Finds the best choice of probes. The j-th point of the i-th net looked at has the slot
     * i * POINTS_A_NET + j, so that a set of slots is the bits of an int.
     */
    private static final class Search {
        private final int[] nets = new int[MOST_LOOKED_AT];
        private final int[] sizes = new int[MOST_LOOKED_AT];
        private final int[] points = new int[MOST_SLOTS];
        private final long[] worths = new long[MOST_SLOTS];
        private final int[] clashes = new int[MOST_SLOTS];
        private final int[] tried = new int[MOST_LOOKED_AT];
        private final int[] best = new int[MOST_LOOKED_AT];
        private int looked;
        private long bestWorth;

        void choose(Board board, int most) {
            lookAtNets(board, most);
            markClashes(board);
            // One below a choice that can be had: the first choice as good as that one is still
            // taken, and all that can't be as good is passed over from the start.
            bestWorth = worthOfPlainChoice() - 1;
            descend(this, 0, 0L, 0);
        }

        private void lookAtNets(Board board, int most) {
            looked = 0;
            for (int net = 0; net < board.netCount; net++) {
                if (board.must[net] && looked < most && looked < MOST_LOOKED_AT) {
                    nets[looked] = net;
                    sizes[looked] = board.sizes[net];
                    for (int j = 0; j < board.sizes[net]; j++) {
                        int point = board.pointsOfNets[net * POINTS_A_NET + j];
                        points[looked * POINTS_A_NET + j] = point;
                        worths[looked * POINTS_A_NET + j] = PROBE_WORTH - board.weights[point];
                    }
                    looked++;
                }
            }
        }

        /** A slot only has to know its clashes with later nets, as nets are decided in their order. */
        private void markClashes(Board board) {
            Arrays.fill(clashes, 0);
            for (int i = 0; i < looked; i++) {
                for (int slot = i * POINTS_A_NET; slot < endOf(i); slot++) {
                    for (int later = i + 1; later < looked; later++) {
                        markClashesWithNet(board, slot, later);
                    }
                }
            }
        }

        private void markClashesWithNet(Board board, int slot, int i) {
            for (int other = i * POINTS_A_NET; other < endOf(i); other++) {
                if (!board.canBothBeProbes(points[slot], points[other])) {
                    clashes[slot] |= 1 << other;
                }
            }
        }

        /** The slot behind the last one that the i-th net fills. */
        private int endOf(int i) {
            return i * POINTS_A_NET + sizes[i];
        }

        /** The worth of the choice in which each net takes its best slot that is still free. */
        private long worthOfPlainChoice() {
            long sum = 0;
            int blocked = 0;
            for (int i = 0; i < looked; i++) {
                int slot = bestSlot(i, blocked);
                if (slot != NONE) {
                    sum += worths[slot];
                    blocked |= clashes[slot];
                }
            }
            return sum;
        }

        /** No choice for the nets from the i-th on is worth more, as it leaves out their clashes. */
        private long mostWorthFrom(int i, int blocked) {
            long sum = 0;
            for (int k = i; k < looked; k++) {
                int slot = bestSlot(k, blocked);
                if (slot != NONE) {
                    sum += worths[slot];
                }
            }
            return sum;
        }

        private int bestSlot(int i, int blocked) {
            int found = NONE;
            for (int slot = i * POINTS_A_NET; slot < endOf(i); slot++) {
                if (!hasBit(blocked, slot) && (found == NONE || worths[slot] > worths[found])) {
                    found = slot;
                }
            }
            return found;
        }

        /**
         * Goes through the choices in the order in which they are to be preferred when they are
         * worth the same, so that only a better one takes the place of the best one so far.
         */
        private static void descend(Search s, int depth, long worth, int blocked) {
            if (worth + s.mostWorthFrom(depth, blocked) <= s.bestWorth) {
                return;
            }
            if (depth >= s.looked || depth >= MOST_LOOKED_AT) {
                s.keep(worth);
                return;
            }
            for (int slot = depth * POINTS_A_NET; slot < s.endOf(depth); slot++) {
                if (!hasBit(blocked, slot)) {
                    s.tried[depth] = s.points[slot];
                    descend(s, depth + 1, worth + s.worths[slot], blocked | s.clashes[slot]);
                }
            }
            s.tried[depth] = NONE;
            descend(s, depth + 1, worth, blocked);
        }

        private void keep(long worth) {
            bestWorth = worth;
            System.arraycopy(tried, 0, best, 0, MOST_LOOKED_AT);
        }
    }

    /** What the latest run took: it stands until the next one, as points never move. */
    private static final class Fixture {
        private final int[] probes = new int[MOST_LOOKED_AT];
        private final int[] left = new int[MOST_LOOKED_AT];
        private final int[] flown = new int[MOST_LOOKED_AT];
        private final int[] sorted = new int[MOST_LOOKED_AT];
        private final char[] letters = new char[MOST_LETTERS];
        private int probeCount;
        private int leftCount;
        private int length;
        private long flightTime;
        private boolean sawAll;

        void build(Board board, Search search) {
            sawAll = search.looked == board.countOfMust();
            takeProbes(search);
            planFlight(board);
            sortByPlace(board);
            writeText(board);
        }

        long sumOfForces(Board board) {
            long sum = 0;
            for (int i = 0; i < probeCount; i++) {
                sum += board.weights[probes[i]];
            }
            return sum;
        }

        int letterAt(int i) {
            if (i >= length || i >= MOST_LETTERS) {
                return NONE;
            }
            return letters[i];
        }

        private void takeProbes(Search search) {
            probeCount = 0;
            leftCount = 0;
            for (int i = 0; i < search.looked; i++) {
                if (search.best[i] == NONE) {
                    left[leftCount] = search.nets[i];
                    leftCount++;
                } else {
                    probes[probeCount] = search.best[i];
                    probeCount++;
                }
            }
        }

        private void planFlight(Board board) {
            System.arraycopy(probes, 0, flown, 0, probeCount);
            flightTime = 0;
            long x = 0;
            long y = 0;
            for (int i = 0; i < probeCount; i++) {
                int nearest = placeOfNearest(board, i, x, y);
                int point = flown[nearest];
                flown[nearest] = flown[i];
                flown[i] = point;
                flightTime += Math.max(Math.abs(board.xs[point] - x), Math.abs(board.ys[point] - y));
                x = board.xs[point];
                y = board.ys[point];
            }
        }

        /** Where in the row of those flown to the nearest one stands, from the given place on. */
        private int placeOfNearest(Board board, int from, long x, long y) {
            int found = from;
            for (int i = from + 1; i < probeCount; i++) {
                long way = board.squareOfWay(flown[i], x, y);
                long leastWay = board.squareOfWay(flown[found], x, y);
                if (way < leastWay || way == leastWay && flown[i] < flown[found]) {
                    found = i;
                }
            }
            return found;
        }

        private void sortByPlace(Board board) {
            for (int i = 0; i < probeCount; i++) {
                int at = i;
                while (at > 0 && board.isBeforeByPlace(probes[i], sorted[at - 1])) {
                    sorted[at] = sorted[at - 1];
                    at--;
                }
                sorted[at] = probes[i];
            }
        }

        private void writeText(Board board) {
            length = 0;
            for (int i = 0; i < probeCount; i++) {
                int point = sorted[i];
                writeLetter('p');
                writeNumber(point);
                writeLetter(' ');
                writeNumber(board.xs[point]);
                writeLetter(' ');
                writeNumber(board.ys[point]);
                writeLetter('\n');
            }
        }

        private void writeNumber(long number) {
            if (number < 0) {
                writeLetter('-');
            }
            long rest = Math.abs(number);
            long unit = 1;
            for (int digits = 1; digits < MOST_DIGITS && unit * 10 <= rest; digits++) {
                unit *= 10;
            }
            for (int digits = 0; digits < MOST_DIGITS && unit > 0; digits++) {
                writeLetter((char) ('0' + rest / unit % 10));
                unit /= 10;
            }
        }

        private void writeLetter(char letter) {
            if (length < MOST_LETTERS) {
                letters[length] = letter;
                length++;
            }
        }
    }

    /**
     * The parts between nets. Of each two nets only the sums of 1 / LOW and 1 / HIGH are kept, as
     * fractions: with 4 parts of at most 1,000 they stay below 10 to the 13th.
     */
    private static final class Parts {
        private static final int PAIRS = MOST_NETS * MOST_NETS;

        private final int[] counts = new int[PAIRS];
        private final int[] joined = new int[MOST_NETS];
        private final long[][] above = new long[ENDS][PAIRS];
        private final long[][] below = new long[ENDS][PAIRS];

        boolean add(int netA, int netB, long low, long high) {
            int pair = pairOf(netA, netB);
            if (counts[pair] >= PARTS_A_PAIR) {
                return false;
            }
            addInverse(LOW_END, pair, low);
            addInverse(HIGH_END, pair, high);
            counts[pair]++;
            joined[netA] |= 1 << netB;
            joined[netB] |= 1 << netA;
            return true;
        }

        boolean areBetween(int netA, int netB) {
            return hasBit(joined[netA], netB);
        }

        /** No net is joined to itself, so neither of the two is in the set. */
        int joinedToBoth(int netA, int netB) {
            return joined[netA] & joined[netB];
        }

        long termOfSpan(int netA, int netB, int end, int part) {
            int pair = pairOf(netA, netB);
            // The span is 1 / the sum, so what is below in the sum is above in the span.
            long top = below[end][pair];
            long bottom = above[end][pair];
            long common = Math.max(1L, commonDivisor(top, bottom));
            return (part == 0 ? top : bottom) / common;
        }

        private void addInverse(int end, int pair, long resistance) {
            long bottom = counts[pair] == 0 ? 1 : below[end][pair];
            above[end][pair] = above[end][pair] * resistance + bottom;
            below[end][pair] = bottom * resistance;
        }

        private static int pairOf(int netA, int netB) {
            return Math.min(netA, netB) * MOST_NETS + Math.max(netA, netB);
        }

        private static long commonDivisor(long a, long b) {
            long greater = a;
            long smaller = b;
            for (int i = 0; i < MOST_DIVISIONS && smaller != 0; i++) {
                long rest = greater % smaller;
                greater = smaller;
                smaller = rest;
            }
            return greater;
        }
    }

    /** The failed rows, and the smallest set of nets that explains them. */
    private static final class Rows {
        private final int[] others = new int[MOST_NETS];
        private int cover;
        private int coverSize;
        private boolean isStale;

        boolean add(int netA, int netB) {
            if (hasBit(others[netA], netB)) {
                return false;
            }
            others[netA] |= 1 << netB;
            others[netB] |= 1 << netA;
            isStale = true;
            return true;
        }

        int countOf(int net) {
            return Integer.bitCount(others[net]);
        }

        int smallestCover() {
            if (isStale) {
                coverSize = MOST_NETS + 1;
                explain(this, 0, 0);
                isStale = false;
            }
            return cover;
        }

        /**
         * Decides net by net, with it first and then without it: then all that share a row with it
         * are taken. So of sets of one size the one to be preferred comes first.
         */
        private static void explain(Rows r, int net, int taken) {
            if (Integer.bitCount(taken) >= r.coverSize) {
                return;
            }
            if (net >= MOST_NETS) {
                r.cover = taken;
                r.coverSize = Integer.bitCount(taken);
                return;
            }
            boolean isSettled = hasBit(taken, net) || (r.others[net] & ~taken) == 0;
            if (!isSettled) {
                explain(r, net + 1, taken | 1 << net);
            }
            explain(r, net + 1, isSettled ? taken : taken | r.others[net]);
        }
    }
}
