import java.util.Random;

/** Long runs of calls, drawn from fixed seeds: the class and the model must answer the same. */
public final class ModelTest {
    private static final int OBJECTS = 240;
    private static final int CALLS = 512;
    private static final int[] ODD = {-1, Integer.MIN_VALUE, Integer.MAX_VALUE, 12, 36, -16};
    private static final long[] ODD_LONGS = {
        -1, 0, 1, 8, 9, 1_000, 1_001, 100_000, 100_001, 1_000_000, 1_000_001, -1_000_000,
        -1_000_001, 1L << 32, Long.MAX_VALUE, Long.MIN_VALUE
    };

    private final Check check;
    private final Random random;
    private final int seed;
    private final ProbeChoice real = new ProbeChoice();
    private final Model model = new Model();
    private final long reach;
    private final long widest;
    private final long strongest;
    private int calls;

    private ModelTest(Check check, int seed) {
        this.check = check;
        this.seed = seed;
        random = new Random(seed);
        reach = new long[] {5, 12, 40, 1_000_000}[random.nextInt(4)];
        widest = new long[] {1, 3, 6, 100_000}[random.nextInt(4)];
        strongest = new long[] {1, 3, 20, 1_000_000}[random.nextInt(4)];
    }

    public static void main(String[] args) {
        Check check = new Check();
        for (int seed = 0; seed < OBJECTS; seed++) {
            new ModelTest(check, seed).goThrough();
        }
        check.end();
    }

    private void goThrough() {
        int netsAtFirst = random.nextInt(14);
        for (int i = 0; i < netsAtFirst; i++) {
            callNet();
        }
        int pointsAtFirst = random.nextInt(40);
        for (int i = 0; i < pointsAtFirst; i++) {
            callPoint();
        }
        while (calls < CALLS - 80) {
            callAny(random.nextInt(100));
        }
    }

    private void callAny(int dice) {
        if (dice < 4) {
            callNet();
        } else if (dice < 14) {
            callPoint();
        } else if (dice < 18) {
            long v = some(reach / 2 + 1);
            both("gap(" + v + ")", () -> real.gap(v), () -> model.gap(v));
        } else if (dice < 30) {
            int point = number(36);
            long v = some(strongest + 1);
            both("force(" + point + ", " + v + ")",
                    () -> real.force(point, v), () -> model.force(point, v));
        } else if (dice < 38) {
            callRun();
        } else if (dice < 60) {
            callPart();
        } else if (dice < 75) {
            callRows();
        } else {
            askOfRun();
        }
    }

    private void callNet() {
        boolean must = random.nextInt(5) != 0;
        both("net(" + must + ")", () -> real.net(must), () -> model.net(must));
    }

    private void callPoint() {
        int net = number(12);
        long x = some(2 * reach + 1) - (random.nextInt(20) == 0 ? 0 : reach);
        long y = some(2 * reach + 1) - (random.nextInt(20) == 0 ? 0 : reach);
        long r = some(widest) + (random.nextInt(20) == 0 ? 0 : 1);
        both("point(" + net + ", " + x + ", " + y + ", " + r + ")",
                () -> real.point(net, x, y, r), () -> model.point(net, x, y, r));
    }

    private void callRun() {
        long nodes = random.nextInt(3) == 0 ? some(9) : 8;
        both("run(" + nodes + ")", () -> real.run(nodes), () -> model.run(nodes));
        if (random.nextInt(3) == 0 && calls < CALLS - 200) {
            for (int k = -1; k < 10; k++) {
                askEach(k);
            }
            both("seconds()", real::seconds, model::seconds);
            both("forces()", real::forces, model::forces);
            both("proved()", real::proved, model::proved);
        }
    }

    private void askEach(int k) {
        both("probe(" + k + ")", () -> real.probe(k), () -> model.probe(k));
        both("out(" + k + ")", () -> real.out(k), () -> model.out(k));
        both("fly(" + k + ")", () -> real.fly(k), () -> model.fly(k));
        both("order(" + k + ")", () -> real.order(k), () -> model.order(k));
    }

    private void askOfRun() {
        int k = number(9);
        int i = number(180);
        switch (random.nextInt(6)) {
            case 0 -> askEach(k);
            case 1 -> both("seconds()", real::seconds, model::seconds);
            case 2 -> both("forces()", real::forces, model::forces);
            case 3 -> both("proved()", real::proved, model::proved);
            default -> both("text(" + i + ")", () -> real.text(i), () -> model.text(i));
        }
    }

    private void callPart() {
        int a = number(random.nextBoolean() ? 4 : 12);
        int b = number(random.nextBoolean() ? 4 : 12);
        int k = number(5);
        int end = number(2);
        int part = number(2);
        long low = some(random.nextBoolean() ? 12 : 1_001);
        long high = random.nextInt(8) == 0 ? some(1_001) : Math.min(1_000, low + random.nextInt(9));
        switch (random.nextInt(3)) {
            case 0 -> both("part(" + a + ", " + b + ", " + low + ", " + high + ")",
                    () -> real.part(a, b, low, high), () -> model.part(a, b, low, high));
            case 1 -> both("span(" + a + ", " + b + ", " + end + ", " + part + ")",
                    () -> real.span(a, b, end, part), () -> model.span(a, b, end, part));
            default -> both("guard(" + a + ", " + b + ", " + k + ")",
                    () -> real.guard(a, b, k), () -> model.guard(a, b, k));
        }
    }

    private void callRows() {
        int row = random.nextInt(4) == 0 ? number(200) : 16 * random.nextInt(12) + random.nextInt(12);
        int k = number(13);
        int what = number(2);
        switch (random.nextInt(4)) {
            case 0 -> both("suspects()", real::suspects, model::suspects);
            case 1 -> both("suspect(" + k + ", " + what + ")",
                    () -> real.suspect(k, what), () -> model.suspect(k, what));
            case 2 -> both("faults(" + k + ")", () -> real.faults(k), () -> model.faults(k));
            default -> both("fail(" + row + ")", () -> real.fail(row), () -> model.fail(row));
        }
    }

    /** Mostly 0 .. below - 1, now and then something odd. */
    private int number(int below) {
        return random.nextInt(25) == 0 ? ODD[random.nextInt(ODD.length)] : random.nextInt(below);
    }

    private long some(long below) {
        return random.nextInt(40) == 0
                ? ODD_LONGS[random.nextInt(ODD_LONGS.length)]
                : (long) (random.nextDouble() * below);
    }

    private void both(String call, Check.Call ofReal, Check.Call ofModel) {
        calls++;
        String want = Check.told(ofModel);
        check.same("seed " + seed + ", call " + calls + ": " + call, want, Check.told(ofReal));
    }
}
