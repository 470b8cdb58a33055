/** Nets, points, forces and the gap: promises 1, 2, 3, 4 and 18, and the terms they use. */
final class BoardSentences {
    private final Sentences s;

    BoardSentences(Sentences s) {
        this.s = s;
    }

    void all() {
        s.each(
                this::at512Calls,
                this::termsNone,
                this::termsNets,
                this::termsPoints,
                this::termsPlaces,
                this::termsRadius,
                this::termsForce,
                this::termsGap,
                this::termsApartByGapAndRadii,
                this::promise1NoNets,
                this::promise2ItsNumber,
                this::promise2NoneWhenThereAre12,
                this::promise3ItsNumber,
                this::promise3NoneWhenTheNetHas3,
                this::promise3NoSuchNet,
                this::promise3NoPlace,
                this::promise3NoRadius,
                this::promise4WhetherAnother,
                this::promise4NoGap,
                this::promise18WhetherAnother,
                this::promise18NoSuchPoint,
                this::promise18NoForce);
    }

    private void at512Calls() {
        s.begin("What it is", "An object is used for at most 512 calls after it has been made;");
        ProbeChoice p = new ProbeChoice();
        for (int call = 1; call < 512; call++) {
            p.gap(call % 2);
        }
        s.due("the 512th call still answers", true, () -> p.gap(0));
        ProbeChoice q = Told.withPlaces(0, 0, 10, 0);
        for (int call = 5; call < 512; call++) {
            q.run(8);
        }
        s.due("the 512th call may be a run", 2, () -> q.run(8));
    }

    private void termsNone() {
        s.terms("The constants: `NONE = -1`: There is none.");
        s.due("NONE", -1, () -> ProbeChoice.NONE);
    }

    private void termsNets() {
        s.terms("NETS 0 .. 11, each one that must be reached, or not;");
        ProbeChoice p = new ProbeChoice();
        s.due("the first net", 0, () -> p.net(false));
        for (int net = 1; net < 11; net++) {
            p.net(false);
        }
        s.due("the last net", 11, () -> p.net(true));
        p.point(0, 0, 0, 1);
        p.point(11, 500, 0, 1);
        s.due("only the one that must be reached", "1: 1", () -> Told.run(p, 8));
        s.due("it is all that must be", true, p::proved);
    }

    private void termsPoints() {
        s.terms("each has up to 3 POINTS, numbered over all from 0,");
        ProbeChoice p = Told.withNets(12);
        for (int point = 0; point < 36; point++) {
            int net = 11 - point % 12;
            s.due("point of net " + net, point, () -> p.point(net, 0, 0, 1));
        }
        s.due("the last one has a force", true, () -> p.force(35, 1));
        s.outOfBounds("there is none behind it", () -> p.force(36, 1));
    }

    private void termsPlaces() {
        s.terms("at places (-1,000,000 .. 1,000,000)");
        ProbeChoice p = Told.withNets(4);
        s.due("least x and y", 0, () -> p.point(0, -1_000_000, -1_000_000, 1));
        s.due("greatest x and y", 1, () -> p.point(1, 1_000_000, 1_000_000, 1));
        s.due("least x, greatest y", 2, () -> p.point(2, -1_000_000, 1_000_000, 1));
        s.due("0, 0", 3, () -> p.point(3, 0, 0, 1));
        p.run(8);
        s.due("they are kept", "p0 -1000000 -1000000\np2 -1000000 1000000\np3 0 0\np1 1000000 1000000\n",
                () -> Told.text(p));
    }

    private void termsRadius() {
        s.terms("with a radius (1 .. 100,000)");
        ProbeChoice p = Told.withNets(2);
        s.due("the least", 0, () -> p.point(0, 0, 0, 1));
        s.due("the greatest", 1, () -> p.point(1, 100_000, 0, 100_000));
        s.due("100,000 apart are too few", 1, () -> p.run(8));
        p.point(1, 100_001, 0, 100_000);
        s.due("100,001 are enough", "2: 0 2", () -> Told.run(p, 8));
    }

    private void termsForce() {
        s.terms("and a FORCE (0 .. 1,000,000, at first 0).");
        ProbeChoice p = Told.withPlaces(0, 0);
        p.run(8);
        s.due("at first 0", 0, p::forces);
        s.due("0 is no other one", false, () -> p.force(0, 0));
        s.due("the greatest", true, () -> p.force(0, 1_000_000));
        s.due("it is kept", 1_000_000, p::forces);
        s.due("back to the least", true, () -> p.force(0, 0));
        s.due("it is kept too", 0, p::forces);
    }

    private void termsGap() {
        s.terms("The GAP is a number (0 .. 1,000,000, at first 0):");
        ProbeChoice p = Told.withPlaces(0, 0, 2, 0);
        s.due("at first 0: radii alone", 2, () -> p.run(8));
        s.due("0 is no other one", false, () -> p.gap(0));
        s.due("1", true, () -> p.gap(1));
        s.due("1 is felt", 1, () -> p.run(8));
        s.due("the greatest", true, () -> p.gap(1_000_000));
        ProbeChoice q = Told.withPlaces(-2, 0, 1_000_000, 0);
        q.gap(1_000_000);
        s.due("the greatest is felt: 1,000,002 apart", 2, () -> q.run(8));
        ProbeChoice r = Told.withPlaces(-1, 0, 1_000_000, 0);
        r.gap(1_000_000);
        s.due("the greatest is felt: 1,000,001 apart", 1, () -> r.run(8));
    }

    private void termsApartByGapAndRadii() {
        s.terms("two points can be PROBES at once when their places are apart by the GAP and both"
                + " radii at least (exactly, straight).");
        ProbeChoice p = Told.withNets(2);
        p.point(0, -30, 0, 20);
        p.point(1, 0, 40, 27);
        s.due("50 apart, 47 are wanted", 2, () -> p.run(8));
        p.gap(3);
        s.due("50 apart, just 50 are wanted", 2, () -> p.run(8));
        p.gap(4);
        s.due("50 apart, 51 are wanted", 1, () -> p.run(8));
        s.due("a place may be the same, but not of two probes", 1,
                () -> Told.withPlaces(7, 7, 7, 7).run(8));
        s.due("2 apart along y", 2, () -> Told.withPlaces(7, 7, 7, 9).run(8));
        s.due("1 along both is too near", 1, () -> Told.withPlaces(7, 7, 8, 8).run(8));
        s.due("2 and 1, a root above 2", 2, () -> Told.withPlaces(7, 7, 9, 8).run(8));
        farApart(1_200_000, 0, 2);
        farApart(1_199_999, 0, 1);
        farApart(848_528, 848_528, 1);
        farApart(848_528, 848_529, 2);
        farApart(2_000_000, 2_000_000, 2);
        nearWithAHair();
    }

    /** The greatest radii and the greatest gap want 1,200,000, whose square is beyond an int. */
    private void farApart(long wide, long high, int probes) {
        ProbeChoice p = Told.withNets(2);
        p.point(0, -1_000_000, 1_000_000, 100_000);
        p.point(1, -1_000_000 + wide, 1_000_000 - high, 100_000);
        p.gap(1_000_000);
        s.due("1,200,000 wanted, apart " + wide + ", " + high, probes, () -> p.run(8));
    }

    /** The roots are 1,000,000.3 and 999,999.6: rounded, both would do. */
    private void nearWithAHair() {
        ProbeChoice p = Told.withNets(2);
        p.point(0, 0, 0, 100_000);
        p.point(1, 707_107, 707_107, 100_000);
        p.gap(800_000);
        s.due("1,000,000 wanted, a root just above", 2, () -> p.run(8));
        ProbeChoice q = Told.withNets(2);
        q.point(0, 0, 0, 100_000);
        q.point(1, 707_107, 707_106, 100_000);
        q.gap(800_000);
        s.due("1,000,000 wanted, a root just below", 1, () -> q.run(8));
    }

    private void promise1NoNets() {
        s.promise(1, "No nets.");
        ProbeChoice p = new ProbeChoice();
        s.outOfBounds("point", () -> p.point(0, 0, 0, 1));
        s.outOfBounds("force", () -> p.force(0, 0));
        s.outOfBounds("part", () -> p.part(0, 0, 1, 1));
        s.outOfBounds("span", () -> p.span(0, 0, 0, 0));
        s.outOfBounds("guard", () -> p.guard(0, 0, 0));
        s.outOfBounds("fail", () -> p.fail(0));
        s.outOfBounds("faults", () -> p.faults(0));
        s.due("a run over none", 0, () -> p.run(8));
        s.none("nothing left out", () -> p.out(0));
        s.due("no suspects", 0, p::suspects);
        s.due("the first net", 0, () -> p.net(true));
        ProbeChoice other = new ProbeChoice();
        s.outOfBounds("another object's nets are its own", () -> other.faults(0));
    }

    private void promise2ItsNumber() {
        s.promise(2, "A new net: its number;");
        ProbeChoice p = new ProbeChoice();
        for (int net = 0; net < 12; net++) {
            int number = net;
            s.outOfBounds("not yet: " + net, () -> p.faults(number));
            s.due("must or not, numbers rise", net, () -> p.net(number % 3 == 0));
            s.due("there now: " + net, 0, () -> p.faults(number));
        }
        p.run(4);
        s.due("4 must be reached", true, p::proved);
        p.run(3);
        s.due("not just 3", false, p::proved);
    }

    private void promise2NoneWhenThereAre12() {
        s.promise(2, "NONE when there are 12.");
        ProbeChoice p = withTwelve(false);
        s.none("a 13th that must be reached", () -> p.net(true));
        s.outOfBounds("a refused one is not there", () -> p.faults(12));
        s.outOfBounds("nor can it have points", () -> p.point(12, 0, 0, 1));
        s.due("the 12th still need not be reached", "0: ", () -> Told.run(p, 8));
        s.due("nor does a refused one", true, p::proved);
        ProbeChoice q = withTwelve(true);
        s.none("a 13th that need not be reached", () -> q.net(false));
        s.due("the 12th still must be", "1: 0", () -> Told.run(q, 8));
        s.none("a 14th", () -> q.net(true));
        s.due("nothing but the 12th must be", true, () -> q.run(1) == 1 && q.proved());
    }

    /** Eleven nets that need not be reached, and a twelfth with a point. */
    private ProbeChoice withTwelve(boolean last) {
        ProbeChoice p = new ProbeChoice();
        for (int net = 0; net < 11; net++) {
            p.net(false);
        }
        s.due("the 12th", 11, () -> p.net(last));
        p.point(11, 0, 0, 1);
        return p;
    }

    private void promise3ItsNumber() {
        s.promise(3, "A new POINT: its number;");
        ProbeChoice p = Told.withNets(3);
        s.due("of the last net", 0, () -> p.point(2, 1, 1, 1));
        s.due("of the first net", 1, () -> p.point(0, 50, 1, 1));
        s.due("of the last again", 2, () -> p.point(2, 2, 2, 1));
        s.due("at a place that has one", 3, () -> p.point(1, 2, 2, 1));
    }

    private void promise3NoneWhenTheNetHas3() {
        s.promise(3, "NONE when the net has 3.");
        ProbeChoice p = Told.withNets(2);
        p.point(0, 0, 0, 1);
        p.point(0, 10, 0, 1);
        s.due("the third", 2, () -> p.point(0, 20, 0, 1));
        s.none("a fourth", () -> p.point(0, 30, 0, 1));
        s.none("a fifth", () -> p.point(0, 40, 0, 1));
        s.outOfBounds("a refused one is not there", () -> p.force(3, 1));
        s.due("another net has room, numbers go on", 3, () -> p.point(1, 50, 0, 1));
        p.force(0, 9);
        p.force(1, 9);
        s.due("the three are as they were", "2: 2 3", () -> Told.run(p, 8));
        s.due("at their places", "p2 20 0\np3 50 0\n", () -> Told.text(p));
        s.outOfBounds("wrong nets throw, full or not", () -> p.point(2, 0, 0, 1));
        s.illegal("so does a wrong radius at a full net", () -> p.point(0, 0, 0, 0));
        s.illegal("so does a wrong place at a full net", () -> p.point(0, 1_000_001, 0, 1));
    }

    private void promise3NoSuchNet() {
        s.promise(3, "IndexOutOfBoundsException, when there is no such net;");
        ProbeChoice p = Told.withNets(2);
        s.outOfBounds("-1", () -> p.point(-1, 0, 0, 1));
        s.outOfBounds("2 of 2", () -> p.point(2, 0, 0, 1));
        s.outOfBounds("11, not made yet", () -> p.point(11, 0, 0, 1));
        s.outOfBounds("12", () -> p.point(12, 0, 0, 1));
        s.outOfBounds("greatest", () -> p.point(Integer.MAX_VALUE, 0, 0, 1));
        s.outOfBounds("least", () -> p.point(Integer.MIN_VALUE, 0, 0, 1));
        s.outOfBounds("the net comes before place and radius", () -> p.point(2, 1_000_001, 0, 0));
        s.due("no number was taken", 0, () -> p.point(1, 0, 0, 1));
    }

    private void promise3NoPlace() {
        s.promise(3, "IllegalArgumentException, when it is no place,");
        ProbeChoice p = Told.withNets(1);
        s.illegal("x above", () -> p.point(0, 1_000_001, 0, 1));
        s.illegal("x below", () -> p.point(0, -1_000_001, 0, 1));
        s.illegal("y above", () -> p.point(0, 0, 1_000_001, 1));
        s.illegal("y below", () -> p.point(0, 0, -1_000_001, 1));
        s.illegal("x greatest", () -> p.point(0, Long.MAX_VALUE, 0, 1));
        s.illegal("x least", () -> p.point(0, Long.MIN_VALUE, 0, 1));
        s.illegal("y greatest", () -> p.point(0, 0, Long.MAX_VALUE, 1));
        s.illegal("y least", () -> p.point(0, 0, Long.MIN_VALUE, 1));
        s.illegal("x that is 5 as an int", () -> p.point(0, (1L << 32) + 5, 0, 1));
        s.illegal("x below that is 5 as an int", () -> p.point(0, (-1L << 32) + 5, 0, 1));
        s.illegal("y that is 5 as an int", () -> p.point(0, 0, (1L << 32) + 5, 1));
        s.illegal("y below that is 5 as an int", () -> p.point(0, 0, (-1L << 32) + 5, 1));
        for (int point = 0; point < 3; point++) {
            int number = point;
            s.due("no room was taken", number, () -> p.point(0, number, 0, 1));
        }
    }

    private void promise3NoRadius() {
        s.promise(3, "or radius.");
        ProbeChoice p = Told.withNets(1);
        s.illegal("0", () -> p.point(0, 0, 0, 0));
        s.illegal("-1", () -> p.point(0, 0, 0, -1));
        s.illegal("100,001", () -> p.point(0, 0, 0, 100_001));
        s.illegal("greatest", () -> p.point(0, 0, 0, Long.MAX_VALUE));
        s.illegal("least", () -> p.point(0, 0, 0, Long.MIN_VALUE));
        s.illegal("1 as an int", () -> p.point(0, 0, 0, (1L << 32) + 1));
        s.illegal("below, 1 as an int", () -> p.point(0, 0, 0, (-1L << 32) + 1));
        s.due("no number was taken", 0, () -> p.point(0, 0, 0, 1));
    }

    private void promise4WhetherAnother() {
        s.promise(4, "The GAP: whether it was another one.");
        ProbeChoice p = new ProbeChoice();
        s.due("the first one, 0", false, () -> p.gap(0));
        s.due("another", true, () -> p.gap(7));
        s.due("the same", false, () -> p.gap(7));
        s.due("the greatest", true, () -> p.gap(1_000_000));
        s.due("the greatest again", false, () -> p.gap(1_000_000));
        s.due("back to 0", true, () -> p.gap(0));
        s.due("0 again", false, () -> p.gap(0));
        ProbeChoice q = Told.withPlaces(0, 0, 9, 0);
        q.gap(8);
        s.due("it holds for the next run", 1, () -> q.run(8));
        q.gap(7);
        s.due("so does another", 2, () -> q.run(8));
    }

    private void promise4NoGap() {
        s.promise(4, "IllegalArgumentException, when it is none.");
        ProbeChoice p = Told.withPlaces(0, 0, 9, 0);
        p.gap(7);
        s.illegal("-1", () -> p.gap(-1));
        s.illegal("1,000,001", () -> p.gap(1_000_001));
        s.illegal("greatest", () -> p.gap(Long.MAX_VALUE));
        s.illegal("least", () -> p.gap(Long.MIN_VALUE));
        s.illegal("8 as an int", () -> p.gap((1L << 32) + 8));
        s.illegal("below, 8 as an int", () -> p.gap((-1L << 32) + 8));
        s.due("refused ones change nothing", 2, () -> p.run(8));
        s.due("it is still the same", false, () -> p.gap(7));
    }

    private void promise18WhetherAnother() {
        s.promise(18, "A point's FORCE: whether it was another one.");
        ProbeChoice p = Told.withPlaces(0, 0, 9, 0);
        s.due("at first 0", false, () -> p.force(1, 0));
        s.due("the greatest", true, () -> p.force(1, 1_000_000));
        s.due("the same", false, () -> p.force(1, 1_000_000));
        s.due("the other point has its own", false, () -> p.force(0, 0));
        s.due("back to 0", true, () -> p.force(1, 0));
    }

    private void promise18NoSuchPoint() {
        s.promise(18, "IndexOutOfBoundsException, when there is no such point;");
        ProbeChoice p = Told.withPlaces(0, 0, 9, 0);
        s.outOfBounds("-1", () -> p.force(-1, 0));
        s.outOfBounds("2 of 2", () -> p.force(2, 0));
        s.outOfBounds("35, not made yet", () -> p.force(35, 0));
        s.outOfBounds("36", () -> p.force(36, 0));
        s.outOfBounds("greatest", () -> p.force(Integer.MAX_VALUE, 0));
        s.outOfBounds("least", () -> p.force(Integer.MIN_VALUE, 0));
        s.outOfBounds("the point comes before its force", () -> p.force(2, -1));
        p.net(true);
        p.point(2, 100, 0, 1);
        s.due("a point made later begins at 0", false, () -> p.force(2, 0));
    }

    private void promise18NoForce() {
        s.promise(18, "IllegalArgumentException, when it is none.");
        ProbeChoice p = Told.withPlaces(0, 0);
        p.force(0, 5);
        p.run(8);
        s.illegal("-1", () -> p.force(0, -1));
        s.illegal("1,000,001", () -> p.force(0, 1_000_001));
        s.illegal("greatest", () -> p.force(0, Long.MAX_VALUE));
        s.illegal("least", () -> p.force(0, Long.MIN_VALUE));
        s.illegal("6 as an int", () -> p.force(0, (1L << 32) + 6));
        s.illegal("below, 6 as an int", () -> p.force(0, (-1L << 32) + 6));
        s.due("refused ones change nothing", 5, p::forces);
        s.due("it is still the same", false, () -> p.force(0, 5));
    }
}
