/** What a run takes and leaves out: promises 5 to 8 and 19, and the terms they use. */
final class RunSentences {
    private final Sentences s;

    RunSentences(Sentences s) {
        this.s = s;
    }

    void all() {
        s.each(
                this::termsFirstNets,
                this::termsOnePointOrNone,
                this::termsAllAtOnce,
                this::termsMost,
                this::termsLeastForce,
                this::termsLowestOfTheFirstNet,
                this::termsThenTheSecondNet,
                this::termsLeftOut,
                this::promise5SoManyNets,
                this::promise5HowMany,
                this::promise5UntilTheNextOne,
                this::promise5NotSoMany,
                this::promise6ByNets,
                this::promise6NotSoMany,
                this::promise6Below,
                this::promise6NoRun,
                this::promise7AllThatMust,
                this::promise7WithoutAny,
                this::promise8LeftOut,
                this::promise8Likewise,
                this::promise19Sum,
                this::promise19AsNow);
    }

    /** Twelve nets side by side, each with a point of its own number; net 1 need not be reached. */
    private static ProbeChoice twelveButOne() {
        ProbeChoice p = new ProbeChoice();
        for (int net = 0; net < 12; net++) {
            p.net(net != 1);
            p.point(net, net * 10, 0, 1);
        }
        return p;
    }

    private void termsFirstNets() {
        s.terms("A RUN looks at the first nets, rising, that must be reached, as many as told.");
        ProbeChoice p = twelveButOne();
        s.due("none told", "0: ", () -> Told.run(p, 0));
        s.due("1 told", "1: 0", () -> Told.run(p, 1));
        s.due("2 told, the second need not be reached", "2: 0 2", () -> Told.run(p, 2));
        s.due("8 told", "8: 0 2 3 4 5 6 7 8", () -> Told.run(p, 8));
        ProbeChoice few = Told.withPlaces(0, 0, 10, 0);
        s.due("more told than there are", "2: 0 1", () -> Told.run(few, 8));
        ProbeChoice bare = Told.withNets(2);
        bare.point(1, 0, 0, 1);
        s.due("a net without points counts", "0: ", () -> Told.run(bare, 1));
    }

    private void termsOnePointOrNone() {
        s.terms("It takes PROBES, of each of these nets one point or none,");
        ProbeChoice p = Told.withNets(2);
        p.point(0, 0, 0, 1);
        p.point(0, 100, 0, 1);
        p.point(0, 200, 0, 1);
        s.due("three points, one probe; no points, none", "1: 0", () -> Told.run(p, 8));
        s.due("no points in any net", "0: ", () -> Told.run(Told.withNets(12), 8));
        ProbeChoice full = Told.withNets(12);
        for (int point = 0; point < 36; point++) {
            full.point(point / 3, point * 10, 0, 1);
        }
        s.due("full nets, one of each", "8: 0 3 6 9 12 15 18 21", () -> Told.run(full, 8));
        ProbeChoice heap = Told.withNets(12);
        for (int point = 0; point < 36; point++) {
            heap.point(point / 3, 0, 0, 100_000);
        }
        s.due("full nets, all at one place", "1: 0", () -> Told.run(heap, 8));
    }

    private void termsAllAtOnce() {
        s.terms("all of which can be PROBES at once:");
        ProbeChoice p = Told.withPlaces(0, 0, 2, 0, 4, 0);
        s.due("each touches the next", "3: 0 1 2", () -> Told.run(p, 8));
        p.gap(1);
        s.due("neighbours are too near, the ends are not", "2: 0 2", () -> Told.run(p, 8));
        p.gap(2);
        s.due("just so", "2: 0 2", () -> Told.run(p, 8));
        p.gap(3);
        s.due("the ends are too near", "1: 0", () -> Told.run(p, 8));
        p.gap(0);
        s.due("near enough again", "3: 0 1 2", () -> Told.run(p, 8));
        ProbeChoice q = Told.withPlaces(0, 0, 100, 0, 1, 0);
        s.due("the first and the third are too near", "2: 0 1", () -> Told.run(q, 8));
        ProbeChoice r = Told.withPlaces(0, 0, 100, 0, 101, 0, 1, 0);
        s.due("so are two in the middle", "2: 0 1", () -> Told.run(r, 8));
    }

    private void termsMost() {
        s.terms("most of them;");
        ProbeChoice p = Told.withNets(8);
        for (int net = 0; net < 7; net++) {
            p.point(net, 10 * net, 0, 1);
            p.point(net, 500_000, 10 * net, 1);
            p.force(2 * net + 1, 1_000_000);
        }
        s.due("7 without force", "7: 0 2 4 6 8 10 12", () -> Told.run(p, 8));
        p.point(7, 0, 0, 100_000);
        p.force(14, 1_000_000);
        s.due("8 with all the force there is", "8: 1 3 5 7 9 11 13 14", () -> Told.run(p, 8));
        ProbeChoice star = Told.withNets(3);
        star.point(0, 0, 0, 50);
        star.point(1, -40, 0, 1);
        star.point(2, 40, 0, 1);
        s.due("2 without the first net", "2: 1 2", () -> Told.run(star, 8));
        s.due("it is alone if only it is looked at", "1: 0", () -> Told.run(star, 1));
    }

    private void termsLeastForce() {
        s.terms("of several such choices the one with the least sum of FORCES;");
        ProbeChoice p = Told.withNets(2);
        p.point(0, 0, 0, 1);
        p.point(0, 100, 0, 1);
        p.point(1, 1, 0, 1);
        p.point(1, 101, 0, 1);
        p.force(0, 6);
        p.force(3, 6);
        p.force(2, 11);
        s.due("6 + 6 or 0 + 11", "2: 1 2", () -> Told.run(p, 8));
        p.force(2, 13);
        s.due("6 + 6 or 0 + 13", "2: 0 3", () -> Told.run(p, 8));
        p.force(2, 12);
        s.due("6 + 6 or 0 + 12, then the lowest", "2: 0 3", () -> Told.run(p, 8));
        ProbeChoice q = Told.withNets(1);
        q.point(0, 0, 0, 1);
        q.point(0, 0, 0, 1);
        q.point(0, 0, 0, 1);
        q.force(0, 1_000_000);
        q.force(1, 999_999);
        q.force(2, 1_000_000);
        s.due("the greatest force but 1", "1: 1", () -> Told.run(q, 8));
        ProbeChoice r = Told.withPlaces(0, 0, 1, 0);
        r.force(0, 1);
        s.due("the first net is too near and heavier", "1: 1", () -> Told.run(r, 8));
    }

    private void termsLowestOfTheFirstNet() {
        s.terms("of these the one in which the first net has the point of the lowest number"
                + " (none is behind all points),");
        ProbeChoice p = Told.withNets(2);
        p.point(1, 0, 0, 1);
        p.point(1, 50, 0, 1);
        p.point(0, 0, 0, 1);
        p.point(0, 50, 0, 1);
        s.due("2 and 1, not 3 and 0", "2: 2 1", () -> Told.run(p, 8));
        ProbeChoice q = Told.withNets(12);
        for (int point = 0; point < 33; point++) {
            q.point(1 + point / 3, 0, 0, 1);
        }
        q.point(0, 0, 0, 1);
        s.due("none is behind the highest number", "1: 33", () -> Told.run(q, 8));
        s.due("all others are left out", "1 2 3 4 5 6 7", () -> Told.outs(q));
        ProbeChoice r = new ProbeChoice();
        r.net(false);
        r.net(true);
        r.net(true);
        r.point(2, 0, 0, 1);
        r.point(1, 0, 0, 1);
        s.due("the first net is the first that must be reached", "1: 1", () -> Told.run(r, 8));
    }

    private void termsThenTheSecondNet() {
        s.terms("of these the second net, and so on.");
        ProbeChoice p = Told.withNets(3);
        p.point(2, 0, 0, 1);
        p.point(2, 50, 0, 1);
        p.point(1, 0, 0, 1);
        p.point(1, 50, 0, 1);
        p.point(0, 900, 0, 1);
        s.due("the second net has the lower one", "3: 4 2 1", () -> Told.run(p, 8));
        ProbeChoice q = Told.withPlaces(900, 0, 0, 0, 0, 0);
        s.due("none of the second is behind its point", "2: 0 1", () -> Told.run(q, 8));
        ProbeChoice last = Told.withPlaces(0, 0, 10, 0, 20, 0, 30, 0, 40, 0, 50, 0, 60, 0);
        last.net(true);
        last.point(7, 70, 0, 1);
        last.point(7, 80, 0, 1);
        s.due("the eighth decides", "8: 0 1 2 3 4 5 6 7", () -> Told.run(last, 8));
        last.force(7, 1);
        s.due("the eighth's lighter one", "8: 0 1 2 3 4 5 6 8", () -> Told.run(last, 8));
    }

    private void termsLeftOut() {
        s.terms("Nets without a PROBE then are LEFT OUT.");
        ProbeChoice p = Told.withPlaces(0, 0, 1, 0, 10, 0);
        p.run(8);
        s.due("too near", "1", () -> Told.outs(p));
        ProbeChoice bare = Told.withNets(8);
        bare.run(8);
        s.due("no points at all", "0 1 2 3 4 5 6 7", () -> Told.outs(bare));
        ProbeChoice need = new ProbeChoice();
        need.net(false);
        need.net(true);
        need.run(8);
        s.due("not one that need not be reached", "1", () -> Told.outs(need));
        ProbeChoice q = twelveButOne();
        q.run(8);
        s.due("not those that the run did not look at", "", () -> Told.outs(q));
    }

    private void promise5SoManyNets() {
        s.promise(5, "A RUN over so many nets (0 .. 8):");
        ProbeChoice p = twelveButOne();
        s.due("0, the least", 0, () -> p.run(0));
        s.due("1", 1, () -> p.run(1));
        s.due("7", 7, () -> p.run(7));
        s.due("8, the most", 8, () -> p.run(8));
        s.due("0 behind 8", 0, () -> p.run(0));
        ProbeChoice none = new ProbeChoice();
        s.due("0 without nets", 0, () -> none.run(0));
        s.due("8 without nets", 0, () -> none.run(8));
    }

    private void promise5HowMany() {
        s.promise(5, "how many PROBES it takes;");
        s.due("not how many nets it looks at", 2, () -> Told.withPlaces(0, 0, 1, 0, 10, 0).run(8));
        s.due("nets without points", 0, () -> Told.withNets(3).run(8));
    }

    private void promise5UntilTheNextOne() {
        s.promise(5, "what follows tells of it, until the next one.");
        ProbeChoice p = Told.withPlaces(0, 0, 10, 0);
        p.run(8);
        p.gap(1_000);
        p.net(true);
        p.point(2, 5_000, 0, 1);
        p.point(0, 0, 0, 1);
        p.force(0, 9);
        s.due("its probes stand", "0 1", () -> Told.probes(p));
        s.due("none is left out", "", () -> Told.outs(p));
        s.due("its flight stands", "0 1", () -> Told.flight(p));
        s.due("its seconds stand", 10, p::seconds);
        s.due("its order stands", "0 1", () -> Told.order(p));
        s.due("its text stands", "p0 0 0\np1 10 0\n", () -> Told.text(p));
        s.due("it was proved", true, p::proved);
        s.due("the next one", "2: 3 2", () -> Told.run(p, 8));
        s.due("leaves out", "1", () -> Told.outs(p));
        s.due("flies", "3 2", () -> Told.flight(p));
        s.due("takes longer", 5_000, p::seconds);
        s.due("an empty one", "0: ", () -> Told.run(p, 0));
        s.due("tells of no text", "", () -> Told.text(p));
        s.due("of no flight", "", () -> Told.flight(p));
        s.due("of no order", "", () -> Told.order(p));
        s.due("of none left out", "", () -> Told.outs(p));
        s.due("of no seconds", 0, p::seconds);
        s.due("of no forces", 0, p::forces);
    }

    private void promise5NotSoMany() {
        s.promise(5, "IllegalArgumentException, when nodes are not so.");
        ProbeChoice p = Told.withPlaces(0, 0, 1, 0);
        s.illegal("-1 before any run", () -> p.run(-1));
        s.due("a refused one is no run", false, p::proved);
        p.run(8);
        s.illegal("-1", () -> p.run(-1));
        s.illegal("9", () -> p.run(9));
        s.illegal("least", () -> p.run(Long.MIN_VALUE));
        s.illegal("greatest", () -> p.run(Long.MAX_VALUE));
        s.illegal("0 as an int", () -> p.run(1L << 32));
        s.illegal("8 as an int", () -> p.run((1L << 32) + 8));
        s.illegal("below, 8 as an int", () -> p.run((-1L << 32) + 8));
        s.due("refused ones leave the latest run's probes", "0", () -> Told.probes(p));
        s.due("and what it left out", "1", () -> Told.outs(p));
        s.due("and its text", "p0 0 0\n", () -> Told.text(p));
        s.due("and that it was proved", true, p::proved);
        ProbeChoice q = Told.withNets(9);
        s.illegal("9 is too many with 9 nets too", () -> q.run(9));
    }

    private void promise6ByNets() {
        s.promise(6, "The k-th PROBE, by nets: its point;");
        ProbeChoice p = Told.withNets(3);
        p.point(2, 0, 0, 1);
        p.point(0, 100, 0, 1);
        p.run(8);
        s.due("of the first net", 1, () -> p.probe(0));
        s.due("a net without one is passed over", 0, () -> p.probe(1));
        ProbeChoice full = twelveButOne();
        full.run(8);
        s.due("the eighth", 8, () -> full.probe(7));
    }

    private void promise6NotSoMany() {
        s.promise(6, "NONE, when there are not so many");
        ProbeChoice p = twelveButOne();
        p.run(8);
        s.none("8 of 8", () -> p.probe(8));
        s.none("greatest", () -> p.probe(Integer.MAX_VALUE));
        p.run(2);
        s.due("1 of 2", 2, () -> p.probe(1));
        s.none("2 of 2, though the run before had more", () -> p.probe(2));
        p.run(0);
        s.none("0 of 0", () -> p.probe(0));
    }

    private void promise6Below() {
        s.promise(6, "(or k is below 0,");
        ProbeChoice p = twelveButOne();
        p.run(8);
        s.none("-1", () -> p.probe(-1));
        s.none("least", () -> p.probe(Integer.MIN_VALUE));
    }

    private void promise6NoRun() {
        s.promise(6, "or no RUN was).");
        ProbeChoice p = twelveButOne();
        s.none("0", () -> p.probe(0));
        s.none("-1", () -> p.probe(-1));
        s.none("8", () -> p.probe(8));
        s.none("a new object's", () -> new ProbeChoice().probe(0));
    }

    private void promise7AllThatMust() {
        s.promise(7, "Whether the latest RUN looked at all nets that must be reached then.");
        ProbeChoice p = new ProbeChoice();
        p.run(0);
        s.due("no nets at all", true, p::proved);
        p.net(false);
        p.run(0);
        s.due("none that must", true, p::proved);
        p.net(true);
        s.due("then, not now", true, p::proved);
        p.run(0);
        s.due("one that must, none looked at", false, p::proved);
        p.run(1);
        s.due("one, looked at, though it has no points", true, p::proved);
        p.net(true);
        p.run(1);
        s.due("1 of 2", false, p::proved);
        p.run(8);
        s.due("more told than there are", true, p::proved);
        ProbeChoice eight = Told.withNets(8);
        eight.run(8);
        s.due("8 of 8", true, eight::proved);
        eight.run(7);
        s.due("7 of 8", false, eight::proved);
        eight.net(true);
        eight.run(8);
        s.due("8 of 9", false, eight::proved);
    }

    private void promise7WithoutAny() {
        s.promise(7, "(False without any.)");
        ProbeChoice p = new ProbeChoice();
        s.due("a new object", false, p::proved);
        p.net(false);
        s.due("no net that must, no run", false, p::proved);
        p.net(true);
        s.due("a net that must, no run", false, p::proved);
    }

    private void promise8LeftOut() {
        s.promise(8, "The k-th net, rising, that was LEFT OUT;");
        ProbeChoice p = Told.withNets(2);
        p.net(false);
        p.net(true);
        p.point(1, 0, 0, 1);
        p.run(8);
        s.due("the first", 0, () -> p.out(0));
        s.due("not one that need not be reached", 3, () -> p.out(1));
        p.point(0, 50, 0, 1);
        s.due("as it was, not as it would be", 0, () -> p.out(0));
        p.run(8);
        s.due("the next run reaches it", "3", () -> Told.outs(p));
        ProbeChoice bare = Told.withNets(8);
        bare.run(8);
        s.due("the eighth", 7, () -> bare.out(7));
    }

    private void promise8Likewise() {
        s.promise(8, "NONE likewise.");
        ProbeChoice p = Told.withNets(9);
        s.none("no run", () -> p.out(0));
        p.run(8);
        s.none("8 of 8", () -> p.out(8));
        s.none("greatest", () -> p.out(Integer.MAX_VALUE));
        s.none("-1", () -> p.out(-1));
        s.none("least", () -> p.out(Integer.MIN_VALUE));
        p.run(2);
        s.none("2 of 2, though the run before had more", () -> p.out(2));
        p.run(0);
        s.none("0 of 0", () -> p.out(0));
        s.none("a new object's", () -> new ProbeChoice().out(0));
    }

    private void promise19Sum() {
        s.promise(19, "The sum of the PROBES' FORCES,");
        ProbeChoice p = twelveButOne();
        s.due("no run", 0, p::forces);
        for (int point = 0; point < 12; point++) {
            p.force(point, 1_000_000);
        }
        s.due("still no run", 0, p::forces);
        p.run(8);
        s.due("8 of the greatest, not of other points", 8_000_000, p::forces);
        p.run(1);
        s.due("of one", 1_000_000, p::forces);
        p.run(0);
        s.due("of none", 0, p::forces);
    }

    private void promise19AsNow() {
        s.promise(19, "as they are now.");
        ProbeChoice p = Told.withPlaces(0, 0, 1, 0, 100, 0);
        p.force(0, 5);
        p.force(1, 7);
        p.force(2, 1);
        p.run(8);
        s.due("as in the run", 6, p::forces);
        p.force(0, 1_000_000);
        s.due("changed since", 1_000_001, p::forces);
        s.due("the probes are the same", "0 2", () -> Told.probes(p));
        p.force(1, 0);
        s.due("a point that is no probe", 1_000_001, p::forces);
        p.run(8);
        s.due("the next run takes the lighter one", 1, p::forces);
    }
}
