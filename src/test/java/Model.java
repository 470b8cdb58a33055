import java.math.BigInteger;
import java.util.ArrayList;
import java.util.Comparator;
import java.util.List;
import java.util.Set;
import java.util.TreeSet;

/** The document's words as a plain program: it tries every choice and every set of nets. */
final class Model {
    private record Point(int number, int net, long x, long y, long r) { }

    private record Part(long low, long high) { }

    private final List<Boolean> nets = new ArrayList<>();
    private final List<Point> points = new ArrayList<>();
    private final List<Long> forceOf = new ArrayList<>();
    private final List<List<List<Part>>> partsOf = new ArrayList<>();
    private final Set<Integer> failed = new TreeSet<>();
    private long gap;

    private List<Integer> looked = List.of();
    private List<Point> chosen;
    private List<Point> probes = List.of();
    private List<Integer> left = List.of();
    private boolean proved;

    Model() {
        for (int a = 0; a < 12; a++) {
            partsOf.add(new ArrayList<>());
            for (int b = 0; b < 12; b++) {
                partsOf.get(a).add(new ArrayList<>());
            }
        }
    }

    int net(boolean must) {
        if (nets.size() == 12) {
            return -1;
        }
        nets.add(must);
        return nets.size() - 1;
    }

    int point(int net, long x, long y, long r) {
        needNet(net);
        if (!isPlace(x) || !isPlace(y) || r < 1 || r > 100_000) {
            throw new IllegalArgumentException();
        }
        if (pointsOf(net).size() == 3) {
            return -1;
        }
        points.add(new Point(points.size(), net, x, y, r));
        forceOf.add(0L);
        return points.size() - 1;
    }

    private static boolean isPlace(long v) {
        return v >= -1_000_000 && v <= 1_000_000;
    }

    boolean gap(long v) {
        if (v < 0 || v > 1_000_000) {
            throw new IllegalArgumentException();
        }
        boolean other = gap != v;
        gap = v;
        return other;
    }

    boolean force(int point, long v) {
        if (point < 0 || point >= points.size()) {
            throw new IndexOutOfBoundsException();
        }
        if (v < 0 || v > 1_000_000) {
            throw new IllegalArgumentException();
        }
        return forceOf.set(point, v) != v;
    }

    int run(long nodes) {
        if (nodes < 0 || nodes > 8) {
            throw new IllegalArgumentException();
        }
        List<Integer> must = new ArrayList<>();
        for (int net = 0; net < nets.size(); net++) {
            if (nets.get(net)) {
                must.add(net);
            }
        }
        looked = must.subList(0, (int) Math.min(nodes, must.size()));
        proved = looked.size() == must.size();
        chosen = null;
        tryAll(new ArrayList<>());
        probes = new ArrayList<>();
        left = new ArrayList<>();
        for (int i = 0; i < looked.size(); i++) {
            if (chosen.get(i) == null) {
                left.add(looked.get(i));
            } else {
                probes.add(chosen.get(i));
            }
        }
        return probes.size();
    }

    private void tryAll(List<Point> soFar) {
        if (soFar.size() == looked.size()) {
            if (chosen == null || isBetter(soFar, chosen)) {
                chosen = new ArrayList<>(soFar);
            }
            return;
        }
        List<Point> mine = pointsOf(looked.get(soFar.size()));
        mine.add(null);
        for (Point p : mine) {
            boolean fits = true;
            for (Point q : soFar) {
                fits &= p == null || q == null || areApart(p, q);
            }
            if (fits) {
                soFar.add(p);
                tryAll(soFar);
                soFar.remove(soFar.size() - 1);
            }
        }
    }

    private boolean isBetter(List<Point> a, List<Point> b) {
        if (count(a) != count(b)) {
            return count(a) > count(b);
        }
        if (sum(a) != sum(b)) {
            return sum(a) < sum(b);
        }
        for (int i = 0; i < a.size(); i++) {
            int one = a.get(i) == null ? 99 : a.get(i).number;
            int two = b.get(i) == null ? 99 : b.get(i).number;
            if (one != two) {
                return one < two;
            }
        }
        return false;
    }

    private static int count(List<Point> row) {
        int count = 0;
        for (Point p : row) {
            count += p == null ? 0 : 1;
        }
        return count;
    }

    private long sum(List<Point> row) {
        long sum = 0;
        for (Point p : row) {
            sum += p == null ? 0 : forceOf.get(p.number);
        }
        return sum;
    }

    private boolean areApart(Point p, Point q) {
        long least = gap + p.r + q.r;
        return square(p.x - q.x, p.y - q.y) >= least * least;
    }

    private static long square(long dx, long dy) {
        return dx * dx + dy * dy;
    }

    private List<Point> pointsOf(int net) {
        List<Point> found = new ArrayList<>();
        for (Point p : points) {
            if (p.net == net) {
                found.add(p);
            }
        }
        return found;
    }

    int probe(int k) {
        return numberAt(probes, k);
    }

    boolean proved() {
        return proved;
    }

    int out(int k) {
        return k < 0 || k >= left.size() ? -1 : left.get(k);
    }

    boolean part(int netA, int netB, long low, long high) {
        needNet(netA);
        needNet(netB);
        if (low < 1 || low > 1_000 || high < 1 || high > 1_000 || low > high) {
            throw new IllegalArgumentException();
        }
        if (netA == netB || partsOf.get(netA).get(netB).size() == 4) {
            return false;
        }
        partsOf.get(netA).get(netB).add(new Part(low, high));
        partsOf.get(netB).get(netA).add(new Part(low, high));
        return true;
    }

    long span(int netA, int netB, int end, int part) {
        needNet(netA);
        needNet(netB);
        if (end < 0 || end > 1 || part < 0 || part > 1) {
            throw new IndexOutOfBoundsException();
        }
        List<Part> row = partsOf.get(netA).get(netB);
        if (row.isEmpty()) {
            throw new IllegalStateException();
        }
        BigInteger product = BigInteger.ONE;
        for (Part p : row) {
            product = product.multiply(BigInteger.valueOf(end == 0 ? p.low : p.high));
        }
        BigInteger sum = BigInteger.ZERO;
        for (Part p : row) {
            sum = sum.add(product.divide(BigInteger.valueOf(end == 0 ? p.low : p.high)));
        }
        return (part == 0 ? product : sum).divide(product.gcd(sum)).longValueExact();
    }

    int guard(int netA, int netB, int k) {
        needNet(netA);
        needNet(netB);
        List<Integer> found = new ArrayList<>();
        for (int net = 0; net < nets.size(); net++) {
            boolean both = !partsOf.get(net).get(netA).isEmpty()
                    && !partsOf.get(net).get(netB).isEmpty();
            if (both && net != netA && net != netB) {
                found.add(net);
            }
        }
        return k < 0 || k >= found.size() ? -1 : found.get(k);
    }

    boolean fail(int row) {
        int a = Math.floorDiv(row, 16);
        int b = Math.floorMod(row, 16);
        needNet(a);
        needNet(b);
        return a != b && failed.add(16 * Math.min(a, b) + Math.max(a, b));
    }

    int suspects() {
        return suspectList().size();
    }

    int suspect(int k, int what) {
        List<Integer> list = suspectList();
        if (k < 0 || k >= list.size() || what < 0 || what > 1) {
            throw new IndexOutOfBoundsException();
        }
        return what == 0 ? list.get(k) : faults(list.get(k));
    }

    private List<Integer> suspectList() {
        List<Integer> best = null;
        for (int set = 0; set < 1 << 12; set++) {
            if (explains(set)) {
                List<Integer> list = listOf(set);
                if (best == null || list.size() < best.size()
                        || list.size() == best.size() && isBefore(list, best)) {
                    best = list;
                }
            }
        }
        return best;
    }

    private boolean explains(int set) {
        for (int row : failed) {
            if ((set >> row / 16 & 1) == 0 && (set >> row % 16 & 1) == 0) {
                return false;
            }
        }
        return true;
    }

    private static List<Integer> listOf(int set) {
        List<Integer> list = new ArrayList<>();
        for (int net = 0; net < 12; net++) {
            if ((set >> net & 1) == 1) {
                list.add(net);
            }
        }
        return list;
    }

    private static boolean isBefore(List<Integer> a, List<Integer> b) {
        for (int i = 0; i < a.size(); i++) {
            if (!a.get(i).equals(b.get(i))) {
                return a.get(i) < b.get(i);
            }
        }
        return false;
    }

    int faults(int k) {
        needNet(k);
        int count = 0;
        for (int row : failed) {
            count += row / 16 == k || row % 16 == k ? 1 : 0;
        }
        return count;
    }

    int fly(int k) {
        return numberAt(flight(), k);
    }

    long seconds() {
        long sum = 0;
        long x = 0;
        long y = 0;
        for (Point p : flight()) {
            sum += Math.max(Math.abs(p.x - x), Math.abs(p.y - y));
            x = p.x;
            y = p.y;
        }
        return sum;
    }

    private List<Point> flight() {
        List<Point> rest = new ArrayList<>(probes);
        List<Point> flown = new ArrayList<>();
        long[] at = {0, 0};
        while (!rest.isEmpty()) {
            rest.sort(Comparator.<Point>comparingLong(p -> square(p.x - at[0], p.y - at[1]))
                    .thenComparingInt(Point::number));
            Point next = rest.remove(0);
            flown.add(next);
            at[0] = next.x;
            at[1] = next.y;
        }
        return flown;
    }

    long forces() {
        return sum(probes);
    }

    int text(int i) {
        if (i < 0) {
            throw new IndexOutOfBoundsException();
        }
        String all = "";
        for (Point p : ordered()) {
            all += "p" + p.number + " " + p.x + " " + p.y + "\n";
        }
        return i < all.length() ? all.charAt(i) : -1;
    }

    int order(int k) {
        return numberAt(ordered(), k);
    }

    private List<Point> ordered() {
        List<Point> row = new ArrayList<>(probes);
        row.sort(Comparator.comparingLong(Point::x).thenComparingLong(Point::y)
                .thenComparingInt(Point::number));
        return row;
    }

    private static int numberAt(List<Point> row, int k) {
        return k < 0 || k >= row.size() ? -1 : row.get(k).number;
    }

    private void needNet(int net) {
        if (net < 0 || net >= nets.size()) {
            throw new IndexOutOfBoundsException();
        }
    }
}
