/** Promise by promise: ordinary inputs, the edges that the document names, and wrong inputs. */
public final class PromiseTest {
    private static final Check CHECK = new Check();
    private static final int NONE = ProbeChoice.NONE;

    public static void main(String[] args) {
        newObject();
        net();
        point();
        gap();
        gapIsExactAndStraight();
        run();
        runPrefersMostThenForceThenLowest();
        runPrefersMostAtAnyForce();
        runPrefersEarlierNetsAndPutsNoneLast();
        runLooksAtTheFirstNetsThatMust();
        probe();
        proved();
        out();
        part();
        span();
        guard();
        fail();
        suspects();
        suspect();
        faults();
        fly();
        seconds();
        force();
        forces();
        text();
        order();
        latestRunStands();
        CHECK.end();
    }

    private static ProbeChoice withNets(int count) {
        ProbeChoice p = new ProbeChoice();
        for (int i = 0; i < count; i++) {
            p.net(true);
        }
        return p;
    }

    private static String textOf(ProbeChoice p) {
        StringBuilder s = new StringBuilder();
        for (int i = 0; p.text(i) != NONE; i++) {
            s.append((char) p.text(i));
        }
        return s.toString();
    }

    private static String probesOf(ProbeChoice p) {
        StringBuilder s = new StringBuilder();
        for (int k = 0; p.probe(k) != NONE; k++) {
            s.append(p.probe(k)).append(' ');
        }
        return s.toString().trim();
    }

    private static String outsOf(ProbeChoice p) {
        StringBuilder s = new StringBuilder();
        for (int k = 0; p.out(k) != NONE; k++) {
            s.append(p.out(k)).append(' ');
        }
        return s.toString().trim();
    }

    private static String suspectsOf(ProbeChoice p) {
        StringBuilder s = new StringBuilder();
        for (int k = 0; k < p.suspects(); k++) {
            s.append(p.suspect(k, 0)).append(' ');
        }
        return s.toString().trim();
    }

    private static void newObject() {
        ProbeChoice p = new ProbeChoice();
        CHECK.due("1: NONE", -1, () -> ProbeChoice.NONE);
        CHECK.outOfBounds("1: new point", () -> p.point(0, 0, 0, 1));
        CHECK.outOfBounds("1: new force", () -> p.force(0, 0));
        CHECK.outOfBounds("1: new part", () -> p.part(0, 0, 1, 1));
        CHECK.outOfBounds("1: new span", () -> p.span(0, 0, 0, 0));
        CHECK.outOfBounds("1: new guard", () -> p.guard(0, 0, 0));
        CHECK.outOfBounds("1: new fail", () -> p.fail(0));
        CHECK.outOfBounds("1: new faults", () -> p.faults(0));
        CHECK.outOfBounds("1: new suspect", () -> p.suspect(0, 0));
        CHECK.due("1: new suspects", 0, p::suspects);
        CHECK.due("1: new proved", false, p::proved);
        CHECK.due("1: new probe", NONE, () -> p.probe(0));
        CHECK.due("1: new out", NONE, () -> p.out(0));
        CHECK.due("1: new fly", NONE, () -> p.fly(0));
        CHECK.due("1: new order", NONE, () -> p.order(0));
        CHECK.due("1: new seconds", 0, p::seconds);
        CHECK.due("1: new forces", 0, p::forces);
        CHECK.due("1: new text", NONE, () -> p.text(0));
        CHECK.due("1: new gap is 0", false, () -> p.gap(0));
        CHECK.due("1: first net", 0, () -> p.net(false));
    }

    private static void net() {
        ProbeChoice p = new ProbeChoice();
        for (int i = 0; i < 12; i++) {
            int number = i;
            CHECK.due("2: net " + i, i, () -> p.net(number % 2 == 0));
        }
        CHECK.due("2: a 13th net", NONE, () -> p.net(true));
        CHECK.due("2: a 14th net", NONE, () -> p.net(false));
        CHECK.due("2: the 12th net is there", 0, () -> p.faults(11));
        CHECK.outOfBounds("2: the 13th is not", () -> p.faults(12));
        CHECK.due("2: 6 nets must be reached", true, () -> p.run(6) == 0 && p.proved());
        CHECK.due("2: not 5", false, () -> p.run(5) == 0 && p.proved());
    }

    private static void point() {
        ProbeChoice p = withNets(12);
        CHECK.due("3: least place", 0, () -> p.point(1, -1_000_000, -1_000_000, 1));
        CHECK.due("3: greatest place", 1, () -> p.point(0, 1_000_000, 1_000_000, 100_000));
        CHECK.due("3: third", 2, () -> p.point(1, 0, 0, 1));
        CHECK.due("3: fourth", 3, () -> p.point(1, 0, 0, 1));
        CHECK.due("3: net full", NONE, () -> p.point(1, 0, 0, 1));
        CHECK.outOfBounds("3: net -1", () -> p.point(-1, 0, 0, 1));
        CHECK.outOfBounds("3: net 12", () -> p.point(12, 0, 0, 1));
        CHECK.outOfBounds("3: net first, then place", () -> p.point(12, 1_000_001, 0, 0));
        CHECK.outOfBounds("3: greatest int", () -> p.point(Integer.MAX_VALUE, 0, 0, 1));
        CHECK.outOfBounds("3: least int", () -> p.point(Integer.MIN_VALUE, 0, 0, 1));
        CHECK.illegal("3: x above", () -> p.point(2, 1_000_001, 0, 1));
        CHECK.illegal("3: x below", () -> p.point(2, -1_000_001, 0, 1));
        CHECK.illegal("3: y above", () -> p.point(2, 0, 1_000_001, 1));
        CHECK.illegal("3: y below", () -> p.point(2, 0, -1_000_001, 1));
        CHECK.illegal("3: x far above", () -> p.point(2, Long.MAX_VALUE, 0, 1));
        CHECK.illegal("3: y far below", () -> p.point(2, 0, Long.MIN_VALUE, 1));
        CHECK.illegal("3: x whose low bits are 0", () -> p.point(2, 1L << 32, 0, 1));
        CHECK.illegal("3: radius 0", () -> p.point(2, 0, 0, 0));
        CHECK.illegal("3: radius below", () -> p.point(2, 0, 0, -1));
        CHECK.illegal("3: radius above", () -> p.point(2, 0, 0, 100_001));
        CHECK.illegal("3: wrong place on a full net", () -> p.point(1, 0, 0, 0));
        CHECK.due("3: wrong ones took no number", 4, () -> p.point(2, 0, 0, 1));
        for (int i = 5; i < 36; i++) {
            int number = i;
            CHECK.due("3: point " + i, i, () -> p.point(firstNetWithRoom(number), 0, 0, 1));
        }
        for (int i = 0; i < 12; i++) {
            int net = i;
            CHECK.due("3: net " + i + " is full", NONE, () -> p.point(net, 0, 0, 1));
        }
    }

    /** Net 0 has 1 point, net 1 has 3, net 2 has 1, when the 5th point is added. */
    private static int firstNetWithRoom(int point) {
        if (point < 7) {
            return 0;
        }
        return point < 9 ? 2 : point / 3;
    }

    private static void gap() {
        ProbeChoice p = new ProbeChoice();
        CHECK.due("4: another", true, () -> p.gap(7));
        CHECK.due("4: the same", false, () -> p.gap(7));
        CHECK.due("4: greatest", true, () -> p.gap(1_000_000));
        CHECK.illegal("4: above", () -> p.gap(1_000_001));
        CHECK.illegal("4: below", () -> p.gap(-1));
        CHECK.illegal("4: far above", () -> p.gap(Long.MAX_VALUE));
        CHECK.illegal("4: far below", () -> p.gap(Long.MIN_VALUE));
        CHECK.due("4: wrong ones change nothing", false, () -> p.gap(1_000_000));
        CHECK.due("4: back to 0", true, () -> p.gap(0));
    }

    private static void gapIsExactAndStraight() {
        ProbeChoice p = withNets(2);
        p.point(0, -30, 0, 20);
        p.point(1, 0, 40, 30);
        CHECK.due("4: 50 apart, radii 50", 2, () -> p.run(8));
        p.gap(1);
        CHECK.due("4: 50 apart, 51 wanted", 1, () -> p.run(8));
        ProbeChoice far = withNets(2);
        far.point(0, -1_000_000, -1_000_000, 100_000);
        far.point(1, 200_000, -1_000_000, 100_000);
        far.gap(1_000_000);
        CHECK.due("4: 1,200,000 apart", 2, () -> far.run(8));
        ProbeChoice near = withNets(2);
        near.point(0, -1_000_000, -1_000_000, 100_000);
        near.point(1, 199_999, -1_000_000, 100_000);
        near.gap(1_000_000);
        CHECK.due("4: 1,199,999 apart", 1, () -> near.run(8));
        ProbeChoice corners = withNets(2);
        corners.point(0, -1_000_000, -1_000_000, 100_000);
        corners.point(1, 1_000_000, 1_000_000, 100_000);
        corners.gap(1_000_000);
        CHECK.due("4: corner to corner", 2, () -> corners.run(8));
    }

    private static void run() {
        ProbeChoice p = withNets(1);
        p.point(0, 0, 0, 1);
        CHECK.due("5: no nets looked at", 0, () -> p.run(0));
        CHECK.due("5: one", 1, () -> p.run(1));
        CHECK.illegal("5: -1", () -> p.run(-1));
        CHECK.illegal("5: 9", () -> p.run(9));
        CHECK.illegal("5: far above", () -> p.run(1L << 32));
        CHECK.illegal("5: least", () -> p.run(Long.MIN_VALUE));
        CHECK.due("5: a wrong run leaves the latest one", 0, () -> p.probe(0));
        CHECK.due("5: it was proved", true, p::proved);
        ProbeChoice empty = withNets(3);
        CHECK.due("5: nets without points", 0, () -> empty.run(8));
        CHECK.due("5: they are left out", "0 1 2", () -> outsOf(empty));
    }

    private static void runPrefersMostThenForceThenLowest() {
        ProbeChoice p = withNets(3);
        p.point(0, 0, 0, 5);
        p.point(1, 8, 0, 1);
        p.point(2, -8, 0, 1);
        p.point(0, 0, 0, 7);
        p.point(0, 0, 9, 5);
        p.force(4, 1_000_000);
        p.force(1, 1_000_000);
        p.force(2, 1_000_000);
        CHECK.due("5: most, whatever the force", "0 1 2", () -> p.run(8) == 3 ? probesOf(p) : "");
        p.gap(3);
        CHECK.due("5: most, at great force", "4 1 2", () -> p.run(8) == 3 ? probesOf(p) : "");
        ProbeChoice q = withNets(2);
        q.point(0, 0, 0, 1);
        q.point(0, 100, 0, 1);
        q.point(0, 200, 0, 1);
        q.point(1, 0, 300, 1);
        q.point(1, 0, 400, 1);
        CHECK.due("5: alike, the lowest", "0 3", () -> q.run(8) == 2 ? probesOf(q) : "");
        q.force(0, 2);
        q.force(1, 1);
        q.force(2, 1);
        q.force(3, 1);
        CHECK.due("5: least force, then lowest", "1 4", () -> q.run(8) == 2 ? probesOf(q) : "");
    }

    /** Eight probes with all the force there is, or seven without any. */
    private static void runPrefersMostAtAnyForce() {
        ProbeChoice p = withNets(8);
        for (int net = 0; net < 7; net++) {
            p.point(net, 10 * net, 0, 1);
            p.point(net, 500_000, 10 * net, 1);
            p.force(2 * net + 1, 1_000_000);
        }
        CHECK.due("5: seven without force", 7, () -> p.run(8));
        CHECK.due("5: no force", 0, p::forces);
        p.point(7, 0, 0, 100_000);
        p.force(14, 1_000_000);
        CHECK.due("5: eight with all force", 8, () -> p.run(8));
        CHECK.due("5: all force", 8_000_000, p::forces);
    }

    private static void runPrefersEarlierNetsAndPutsNoneLast() {
        ProbeChoice p = withNets(3);
        for (int net = 0; net < 3; net++) {
            p.point(net, 0, 0, 1);
        }
        CHECK.due("5: the first net has it", "0", () -> p.run(8) == 1 ? probesOf(p) : "");
        p.force(0, 1);
        CHECK.due("5: the second is lighter", "1", () -> p.run(8) == 1 ? probesOf(p) : "");
        CHECK.due("5: others are left out", "0 2", () -> outsOf(p));
        ProbeChoice q = withNets(2);
        q.point(1, 0, 0, 1);
        q.point(1, 50, 0, 1);
        q.point(0, 0, 0, 1);
        q.point(0, 50, 0, 1);
        CHECK.due("5: by the first net, not by numbers", "2 1",
                () -> q.run(8) == 2 ? probesOf(q) : "");
    }

    private static void runLooksAtTheFirstNetsThatMust() {
        ProbeChoice p = new ProbeChoice();
        for (int net = 0; net < 12; net++) {
            p.net(net != 1);
            p.point(net, net * 10, 0, 1);
        }
        CHECK.due("5: 3 nets", "0 2 3", () -> p.run(3) == 3 ? probesOf(p) : "");
        CHECK.due("5: 8 nets", "0 2 3 4 5 6 7 8", () -> p.run(8) == 8 ? probesOf(p) : "");
        CHECK.due("5: not all", false, p::proved);
        CHECK.due("5: none of those looked at is left out", "", () -> outsOf(p));
    }

    private static void probe() {
        ProbeChoice p = withNets(2);
        p.point(1, 0, 0, 1);
        p.point(0, 100, 0, 1);
        CHECK.due("6: before a run", NONE, () -> p.probe(0));
        p.run(8);
        CHECK.due("6: by nets", 1, () -> p.probe(0));
        CHECK.due("6: the second", 0, () -> p.probe(1));
        CHECK.due("6: behind", NONE, () -> p.probe(2));
        CHECK.due("6: far behind", NONE, () -> p.probe(Integer.MAX_VALUE));
        CHECK.due("6: below", NONE, () -> p.probe(-1));
        CHECK.due("6: far below", NONE, () -> p.probe(Integer.MIN_VALUE));
        p.run(1);
        CHECK.due("6: the next run has but one", NONE, () -> p.probe(1));
    }

    private static void proved() {
        ProbeChoice p = new ProbeChoice();
        CHECK.due("7: without a run", false, p::proved);
        p.run(0);
        CHECK.due("7: no nets at all", true, p::proved);
        p.net(false);
        p.run(0);
        CHECK.due("7: none that must", true, p::proved);
        p.net(true);
        CHECK.due("7: a net after the run", true, p::proved);
        p.run(0);
        CHECK.due("7: one not looked at", false, p::proved);
        p.run(1);
        CHECK.due("7: all looked at", true, p::proved);
        ProbeChoice nine = withNets(9);
        nine.run(8);
        CHECK.due("7: 8 of 9", false, nine::proved);
    }

    private static void out() {
        ProbeChoice p = withNets(2);
        p.net(false);
        p.net(true);
        p.point(1, 0, 0, 1);
        CHECK.due("8: before a run", NONE, () -> p.out(0));
        p.run(8);
        CHECK.due("8: those that must, rising", "0 3", () -> outsOf(p));
        CHECK.due("8: behind", NONE, () -> p.out(2));
        CHECK.due("8: below", NONE, () -> p.out(-1));
        CHECK.due("8: far below", NONE, () -> p.out(Integer.MIN_VALUE));
        CHECK.due("8: far behind", NONE, () -> p.out(Integer.MAX_VALUE));
        p.net(true);
        CHECK.due("8: a net after the run", NONE, () -> p.out(2));
        p.run(2);
        CHECK.due("8: only those looked at", "0", () -> outsOf(p));
        p.run(0);
        CHECK.due("8: none looked at", "", () -> outsOf(p));
    }

    private static void part() {
        ProbeChoice p = withNets(12);
        CHECK.due("9: ends of the range", true, () -> p.part(11, 10, 1, 1_000));
        CHECK.due("9: low is high", true, () -> p.part(10, 11, 1_000, 1_000));
        CHECK.due("9: one net", false, () -> p.part(3, 3, 1, 1));
        CHECK.outOfBounds("9: net -1", () -> p.part(-1, 0, 1, 1));
        CHECK.outOfBounds("9: net 12", () -> p.part(0, 12, 1, 1));
        CHECK.outOfBounds("9: nets first", () -> p.part(0, 12, 0, 1));
        CHECK.outOfBounds("9: least int", () -> p.part(Integer.MIN_VALUE, 0, 1, 1));
        CHECK.illegal("9: low 0", () -> p.part(0, 1, 0, 1));
        CHECK.illegal("9: high above", () -> p.part(0, 1, 1, 1_001));
        CHECK.illegal("9: both above", () -> p.part(0, 1, 1_001, 1_001));
        CHECK.illegal("9: both below", () -> p.part(0, 1, -2, -1));
        CHECK.illegal("9: low above high", () -> p.part(0, 1, 3, 2));
        CHECK.illegal("9: far", () -> p.part(0, 1, Long.MIN_VALUE, Long.MAX_VALUE));
        CHECK.illegal("9: one net, wrong low", () -> p.part(3, 3, 0, 1));
        CHECK.due("9: third", true, () -> p.part(10, 11, 1, 1));
        CHECK.due("9: fourth", true, () -> p.part(11, 10, 1, 1));
        CHECK.due("9: fifth", false, () -> p.part(10, 11, 1, 1));
        CHECK.due("9: fifth, other way round", false, () -> p.part(11, 10, 1, 1));
        CHECK.illegal("9: fifth, wrong high", () -> p.part(10, 11, 1, 0));
        CHECK.due("9: other nets have room", true, () -> p.part(9, 11, 1, 1));
        CHECK.due("9: wrong ones were not added", "throws.IllegalStateException",
                () -> p.span(0, 1, 0, 0));
    }

    private static void span() {
        ProbeChoice p = withNets(4);
        p.part(2, 1, 6, 10);
        CHECK.due("10: one part, low above", 6, () -> p.span(1, 2, 0, 0));
        CHECK.due("10: one part, low below", 1, () -> p.span(1, 2, 0, 1));
        CHECK.due("10: one part, high above", 10, () -> p.span(2, 1, 1, 0));
        p.part(1, 2, 4, 15);
        CHECK.due("10: 1 / (1/6 + 1/4), above", 12, () -> p.span(1, 2, 0, 0));
        CHECK.due("10: 1 / (1/6 + 1/4), below", 5, () -> p.span(1, 2, 0, 1));
        CHECK.due("10: 1 / (1/10 + 1/15), above", 6, () -> p.span(1, 2, 1, 0));
        CHECK.due("10: 1 / (1/10 + 1/15), below", 1, () -> p.span(1, 2, 1, 1));
        for (long v = 997; v < 1_000; v++) {
            p.part(3, 0, v, v);
        }
        p.part(0, 3, 991, 1_000);
        CHECK.due("10: great, above", 997L * 998 * 999 * 991, () -> p.span(0, 3, 0, 0));
        CHECK.due("10: great, below",
                998L * 999 * 991 + 997L * 999 * 991 + 997L * 998 * 991 + 997L * 998 * 999,
                () -> p.span(0, 3, 0, 1));
        CHECK.noState("10: no parts", () -> p.span(0, 1, 0, 0));
        CHECK.noState("10: one net", () -> p.span(1, 1, 0, 0));
        CHECK.outOfBounds("10: net 4", () -> p.span(4, 1, 0, 0));
        CHECK.outOfBounds("10: net -1", () -> p.span(1, -1, 0, 0));
        CHECK.outOfBounds("10: end 2", () -> p.span(1, 2, 2, 0));
        CHECK.outOfBounds("10: end -1", () -> p.span(1, 2, -1, 0));
        CHECK.outOfBounds("10: part 2", () -> p.span(1, 2, 0, 2));
        CHECK.outOfBounds("10: part -1", () -> p.span(1, 2, 0, -1));
        CHECK.outOfBounds("10: end before parts", () -> p.span(0, 1, 2, 0));
        CHECK.outOfBounds("10: part before parts", () -> p.span(0, 1, 0, Integer.MIN_VALUE));
    }

    private static void guard() {
        ProbeChoice p = withNets(12);
        p.part(0, 1, 1, 1);
        p.part(11, 0, 1, 1);
        p.part(1, 11, 1, 1);
        p.part(5, 0, 1, 1);
        p.part(5, 1, 1, 1);
        p.part(7, 0, 1, 1);
        CHECK.due("11: first", 5, () -> p.guard(0, 1, 0));
        CHECK.due("11: either way round", 5, () -> p.guard(1, 0, 0));
        CHECK.due("11: second", 11, () -> p.guard(0, 1, 1));
        CHECK.due("11: behind", NONE, () -> p.guard(0, 1, 2));
        CHECK.due("11: far behind", NONE, () -> p.guard(0, 1, Integer.MAX_VALUE));
        CHECK.due("11: below", NONE, () -> p.guard(0, 1, -1));
        CHECK.due("11: far below", NONE, () -> p.guard(0, 1, Integer.MIN_VALUE));
        CHECK.due("11: one net, its neighbours", 7, () -> p.guard(0, 0, 2));
        CHECK.due("11: neither itself", 1, () -> p.guard(0, 0, 0));
        CHECK.due("11: none", NONE, () -> p.guard(2, 3, 0));
        CHECK.outOfBounds("11: net 12", () -> p.guard(12, 0, 0));
        CHECK.outOfBounds("11: net -1", () -> p.guard(0, -1, 0));
        CHECK.outOfBounds("11: net before k", () -> p.guard(0, 12, -1));
    }

    private static void fail() {
        ProbeChoice p = withNets(12);
        CHECK.due("12: first", true, () -> p.fail(16 * 11 + 10));
        CHECK.due("12: again", false, () -> p.fail(16 * 11 + 10));
        CHECK.due("12: other way round", false, () -> p.fail(16 * 10 + 11));
        CHECK.due("12: one net", false, () -> p.fail(17 * 11));
        CHECK.due("12: one net, 0", false, () -> p.fail(0));
        CHECK.outOfBounds("12: higher net 12", () -> p.fail(12));
        CHECK.outOfBounds("12: higher net 15", () -> p.fail(15));
        CHECK.outOfBounds("12: lower net 12", () -> p.fail(16 * 12));
        CHECK.outOfBounds("12: -1", () -> p.fail(-1));
        CHECK.outOfBounds("12: -16", () -> p.fail(-16));
        CHECK.outOfBounds("12: least", () -> p.fail(Integer.MIN_VALUE));
        CHECK.outOfBounds("12: greatest", () -> p.fail(Integer.MAX_VALUE));
        ProbeChoice few = withNets(2);
        CHECK.outOfBounds("12: one net that is not there", () -> few.fail(34));
        CHECK.due("12: one net and another", true, () -> few.fail(1));
    }

    private static void suspects() {
        ProbeChoice p = withNets(12);
        CHECK.due("13: none failed", 0, p::suspects);
        p.fail(16 * 3 + 5);
        CHECK.due("13: one row", 1, p::suspects);
        CHECK.due("13: its lower net", "3", () -> suspectsOf(p));
        p.fail(16 * 5 + 6);
        CHECK.due("13: the one they share", "5", () -> suspectsOf(p));
        p.fail(16 * 6 + 7);
        CHECK.due("13: a chain of three", "3 6", () -> suspectsOf(p));
        ProbeChoice all = withNets(12);
        for (int a = 0; a < 12; a++) {
            for (int b = a + 1; b < 12; b++) {
                all.fail(16 * b + a);
            }
        }
        CHECK.due("13: all rows", "0 1 2 3 4 5 6 7 8 9 10", () -> suspectsOf(all));
        ProbeChoice star = withNets(12);
        for (int a = 0; a < 11; a++) {
            star.fail(16 * a + 11);
        }
        CHECK.due("13: a star", "11", () -> suspectsOf(star));
        ProbeChoice twos = withNets(12);
        for (int a = 0; a < 12; a += 2) {
            twos.fail(16 * a + a + 1);
        }
        CHECK.due("13: rows apart", "0 2 4 6 8 10", () -> suspectsOf(twos));
    }

    private static void suspect() {
        ProbeChoice p = withNets(6);
        CHECK.outOfBounds("14: none", () -> p.suspect(0, 0));
        p.fail(16 * 5 + 4);
        p.fail(16 * 5 + 3);
        p.fail(16 * 1 + 2);
        CHECK.due("14: first", 1, () -> p.suspect(0, 0));
        CHECK.due("14: its rows", 1, () -> p.suspect(0, 1));
        CHECK.due("14: second", 5, () -> p.suspect(1, 0));
        CHECK.due("14: its rows", 2, () -> p.suspect(1, 1));
        CHECK.outOfBounds("14: behind", () -> p.suspect(2, 0));
        CHECK.outOfBounds("14: below", () -> p.suspect(-1, 0));
        CHECK.outOfBounds("14: far below", () -> p.suspect(Integer.MIN_VALUE, 0));
        CHECK.outOfBounds("14: what 2", () -> p.suspect(0, 2));
        CHECK.outOfBounds("14: what -1", () -> p.suspect(0, -1));
    }

    private static void faults() {
        ProbeChoice p = withNets(4);
        p.fail(16 * 3);
        p.fail(3);
        p.fail(16 * 3 + 1);
        p.fail(16 * 3 + 3);
        CHECK.due("15: two rows", 2, () -> p.faults(3));
        CHECK.due("15: one row", 1, () -> p.faults(0));
        CHECK.due("15: none", 0, () -> p.faults(2));
        CHECK.outOfBounds("15: net 4", () -> p.faults(4));
        CHECK.outOfBounds("15: net -1", () -> p.faults(-1));
        CHECK.outOfBounds("15: greatest", () -> p.faults(Integer.MAX_VALUE));
    }

    /** Of the four nearest places two are as far as each other; numbers do not rise with nets. */
    private static ProbeChoice flight() {
        ProbeChoice p = withNets(4);
        p.point(3, -100, 0, 1);
        p.point(2, 100, 0, 1);
        p.point(1, -70, 80, 1);
        p.point(0, -1_000, -999, 1);
        return p;
    }

    private static void fly() {
        ProbeChoice p = flight();
        CHECK.due("16: before a run", NONE, () -> p.fly(0));
        p.run(8);
        CHECK.due("16: as far, the lowest point", 0, () -> p.fly(0));
        CHECK.due("16: nearest from there", 2, () -> p.fly(1));
        CHECK.due("16: not the nearest of 0, 0", 1, () -> p.fly(2));
        CHECK.due("16: last", 3, () -> p.fly(3));
        CHECK.due("16: behind", NONE, () -> p.fly(4));
        CHECK.due("16: below", NONE, () -> p.fly(-1));
        CHECK.due("16: far below", NONE, () -> p.fly(Integer.MIN_VALUE));
        CHECK.due("16: far behind", NONE, () -> p.fly(Integer.MAX_VALUE));
        ProbeChoice rising = withNets(2);
        rising.point(0, 0, 10, 1);
        rising.point(1, 0, -10, 1);
        rising.run(8);
        CHECK.due("16: as far, and rising with the nets", 0, () -> rising.fly(0));
        ProbeChoice straight = withNets(2);
        straight.point(0, 70, 71, 1);
        straight.point(1, 99, 0, 1);
        straight.run(8);
        CHECK.due("16: straight, not the greater way", 1, () -> straight.fly(0));
    }

    private static void seconds() {
        ProbeChoice p = flight();
        CHECK.due("17: before a run", 0, p::seconds);
        p.run(8);
        CHECK.due("17: the greater ways", 100 + 80 + 170 + 1_100, p::seconds);
        p.run(0);
        CHECK.due("17: no probes", 0, p::seconds);
        ProbeChoice upright = withNets(2);
        upright.point(0, 0, 30, 1);
        upright.point(1, 5, 10, 1);
        upright.run(8);
        CHECK.due("17: along y", 10 + 20, upright::seconds);
        ProbeChoice far = withNets(2);
        far.point(0, 1_000_000, 1_000_000, 1);
        far.point(1, -1_000_000, -1_000_000, 1);
        far.run(8);
        CHECK.due("17: far", 3_000_000, far::seconds);
    }

    private static void force() {
        ProbeChoice p = withNets(1);
        p.point(0, 0, 0, 1);
        CHECK.due("18: at first 0", false, () -> p.force(0, 0));
        CHECK.due("18: another", true, () -> p.force(0, 1_000_000));
        CHECK.due("18: the same", false, () -> p.force(0, 1_000_000));
        CHECK.outOfBounds("18: point 1", () -> p.force(1, 0));
        CHECK.outOfBounds("18: point -1", () -> p.force(-1, 0));
        CHECK.outOfBounds("18: point 36", () -> p.force(36, 0));
        CHECK.outOfBounds("18: point first", () -> p.force(1, -1));
        CHECK.illegal("18: below", () -> p.force(0, -1));
        CHECK.illegal("18: above", () -> p.force(0, 1_000_001));
        CHECK.illegal("18: far above", () -> p.force(0, Long.MAX_VALUE));
        CHECK.due("18: wrong ones change nothing", false, () -> p.force(0, 1_000_000));
    }

    private static void forces() {
        ProbeChoice p = withNets(3);
        p.point(0, 0, 0, 1);
        p.point(1, 100, 0, 1);
        p.point(2, 100, 0, 1);
        p.force(0, 5);
        p.force(1, 1_000_000);
        CHECK.due("19: before a run", 0, p::forces);
        p.run(2);
        CHECK.due("19: of the probes", 1_000_005, p::forces);
        p.force(1, 1);
        p.force(2, 100);
        CHECK.due("19: as they are now", 6, p::forces);
        p.run(0);
        CHECK.due("19: no probes", 0, p::forces);
    }

    private static void text() {
        ProbeChoice p = withNets(2);
        p.point(0, 1_000_000, -1_000_000, 1);
        p.point(1, -10, 0, 1);
        CHECK.due("20: before a run", NONE, () -> p.text(0));
        p.run(8);
        CHECK.due("20: lines by place", "p1 -10 0\np0 1000000 -1000000\n", () -> textOf(p));
        CHECK.due("20: a line feed", 10, () -> p.text(8));
        CHECK.due("20: behind", NONE, () -> p.text(9 + 20));
        CHECK.due("20: far behind", NONE, () -> p.text(Integer.MAX_VALUE));
        CHECK.outOfBounds("20: below", () -> p.text(-1));
        CHECK.outOfBounds("20: far below", () -> p.text(Integer.MIN_VALUE));
        p.run(1);
        CHECK.due("20: of the latest run", "p0 1000000 -1000000\n", () -> textOf(p));
        p.run(0);
        CHECK.due("20: no probes", "", () -> textOf(p));
        ProbeChoice longest = withNets(12);
        for (int point = 0; point < 12; point++) {
            longest.point(8 + point / 3, 0, 0, 1);
        }
        StringBuilder lines = new StringBuilder();
        for (int net = 0; net < 8; net++) {
            longest.point(net, -1_000_000, -1_000_000 + 2 * net, 1);
            lines.append("p").append(12 + net).append(" -1000000 ").append(-1_000_000 + 2 * net);
            lines.append("\n");
        }
        longest.run(8);
        CHECK.due("20: eight long lines", lines, () -> textOf(longest));
    }

    private static void order() {
        ProbeChoice p = withNets(4);
        p.point(3, 5, 5, 1);
        p.point(2, 5, -5, 1);
        p.point(1, -50, 100, 1);
        p.point(0, 9, -100, 1);
        CHECK.due("21: before a run", NONE, () -> p.order(0));
        p.run(8);
        CHECK.due("21: least x", 2, () -> p.order(0));
        CHECK.due("21: then least y", 1, () -> p.order(1));
        CHECK.due("21: then greater y", 0, () -> p.order(2));
        CHECK.due("21: greatest x", 3, () -> p.order(3));
        CHECK.due("21: behind", NONE, () -> p.order(4));
        CHECK.due("21: below", NONE, () -> p.order(-1));
        CHECK.due("21: far below", NONE, () -> p.order(Integer.MIN_VALUE));
        CHECK.due("21: far behind", NONE, () -> p.order(Integer.MAX_VALUE));
    }

    /** What is told of a run is as it was, until the next one; only the forces are as now. */
    private static void latestRunStands() {
        ProbeChoice p = withNets(2);
        p.point(0, 0, 0, 1);
        p.point(1, 10, 0, 1);
        p.run(8);
        p.gap(1_000);
        p.point(0, 5, 5, 1);
        p.force(0, 9);
        CHECK.illegal("5: a wrong run", () -> p.run(9));
        CHECK.due("5: probes stand", "0 1", () -> probesOf(p));
        CHECK.due("5: so does the text", "p0 0 0\np1 10 0\n", () -> textOf(p));
        CHECK.due("5: the next one tells anew", 1, () -> p.run(8));
        CHECK.due("5: with another probe", "2", () -> probesOf(p));
    }
}
