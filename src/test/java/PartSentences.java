/** Parts between nets, their spans and guards: promises 9 to 11, and the terms they use. */
final class PartSentences {
    private final Sentences s;

    PartSentences(Sentences s) {
        this.s = s;
    }

    void all() {
        s.each(
                this::termsResistances,
                this::termsAtMost4,
                this::termsSideBySide,
                this::promise9True,
                this::promise9OneNet,
                this::promise9ThereAre4,
                this::promise9NoSuchNets,
                this::promise9NotSo,
                this::promise9LowAboveHigh,
                this::promise10AnEnd,
                this::promise10LowestTerms,
                this::promise10NoSuchNets,
                this::promise10NoSuchEndOrPart,
                this::promise10NoParts,
                this::promise11Rising,
                this::promise11Neither,
                this::promise11NotSoMany,
                this::promise11Below,
                this::promise11NoSuchNets);
    }

    /** A board with one part of each of the resistances, all between the nets 0 and 1. */
    private static ProbeChoice withParts(long... resistances) {
        ProbeChoice p = Told.withNets(2);
        for (long v : resistances) {
            p.part(0, 1, v, v);
        }
        return p;
    }

    private void termsResistances() {
        s.terms("PARTS between two nets have resistances from LOW to HIGH (1 .. 1,000),");
        ProbeChoice p = Told.withNets(4);
        s.due("the widest", true, () -> p.part(0, 1, 1, 1_000));
        s.due("the least", true, () -> p.part(0, 2, 1, 1));
        s.due("the greatest", true, () -> p.part(0, 3, 1_000, 1_000));
        s.due("the low end of the widest", "1/1", () -> Told.span(p, 0, 1, 0));
        s.due("the high end of the widest", "1000/1", () -> Told.span(p, 0, 1, 1));
        s.due("the least's high end", "1/1", () -> Told.span(p, 0, 2, 1));
        s.due("the greatest's low end", "1000/1", () -> Told.span(p, 0, 3, 0));
    }

    private void termsAtMost4() {
        s.terms("at most 4 for two nets;");
        ProbeChoice p = Told.withNets(12);
        for (int i = 0; i < 4; i++) {
            int number = i;
            s.due("part " + i, true, () -> p.part(11 - number % 2, 10 + number % 2, 8, 8));
        }
        s.due("a fifth", false, () -> p.part(10, 11, 8, 8));
        s.due("four of 8 are 2", "2/1", () -> Told.span(p, 10, 11, 0));
        s.due("each two nets have their own 4", true, () -> p.part(9, 11, 8, 8));
        ProbeChoice all = Told.withNets(12);
        s.due("all pairs full", 66 * 4, () -> fillAll(all));
        s.due("one more", false, () -> all.part(0, 11, 8, 8));
    }

    /** How many of five parts for each two nets are taken. */
    private static int fillAll(ProbeChoice p) {
        int taken = 0;
        for (int pair = 0; pair < 144; pair++) {
            for (int i = 0; i < 5 && pair / 12 < pair % 12; i++) {
                taken += p.part(pair / 12, pair % 12, 8, 8) ? 1 : 0;
            }
        }
        return taken;
    }

    private void termsSideBySide() {
        s.terms("together, side by side, their span is from 1 / (the sum of 1 / LOW) to"
                + " 1 / (the sum of 1 / HIGH).");
        ProbeChoice p = Told.withNets(2);
        p.part(0, 1, 6, 10);
        s.due("one: its low", "6/1", () -> Told.span(p, 0, 1, 0));
        s.due("one: its high", "10/1", () -> Told.span(p, 0, 1, 1));
        p.part(0, 1, 4, 15);
        s.due("two: from 1 / (1/6 + 1/4)", "12/5", () -> Told.span(p, 0, 1, 0));
        s.due("two: to 1 / (1/10 + 1/15)", "6/1", () -> Told.span(p, 0, 1, 1));
        s.due("four of the least", "1/4", () -> Told.span(withParts(1, 1, 1, 1), 0, 1, 0));
        s.due("four of the greatest", "250/1",
                () -> Told.span(withParts(1_000, 1_000, 1_000, 1_000), 0, 1, 1));
        s.due("the least beside the greatest", "1000/1001",
                () -> Told.span(withParts(1, 1_000), 0, 1, 0));
    }

    private void promise9True() {
        s.promise(9, "A PART between two nets: true;");
        ProbeChoice p = Told.withNets(2);
        p.net(false);
        s.due("lower and higher net", true, () -> p.part(0, 1, 2, 3));
        s.due("higher and lower net", true, () -> p.part(1, 0, 2, 3));
        s.due("a net that need not be reached", true, () -> p.part(2, 0, 2, 3));
        s.due("both ways round are the same two nets", "1/1", () -> Told.span(p, 1, 0, 0));
    }

    private void promise9OneNet() {
        s.promise(9, "false, when it is one net,");
        ProbeChoice p = Told.withNets(12);
        s.due("the first", false, () -> p.part(0, 0, 1, 1));
        s.due("the last", false, () -> p.part(11, 11, 1, 1_000));
        s.noState("a refused one is not there", () -> p.span(0, 0, 0, 0));
        s.none("nor does it make guards", () -> p.guard(0, 0, 0));
        s.illegal("wrong resistances throw, one net or not", () -> p.part(3, 3, 0, 1));
    }

    private void promise9ThereAre4() {
        s.promise(9, "or there are 4.");
        ProbeChoice p = withParts(2, 3, 4);
        s.due("the fourth", true, () -> p.part(1, 0, 5, 5));
        s.due("a fifth", false, () -> p.part(0, 1, 1, 1));
        s.due("a fifth, other way round", false, () -> p.part(1, 0, 1, 1));
        s.due("refused ones change nothing", "60/77", () -> Told.span(p, 0, 1, 0));
        s.illegal("wrong resistances throw, full or not", () -> p.part(0, 1, 1, 1_001));
        s.illegal("low above high throws, full or not", () -> p.part(0, 1, 2, 1));
        s.outOfBounds("wrong nets throw", () -> p.part(0, 2, 1, 1));
    }

    private void promise9NoSuchNets() {
        s.promise(9, "IndexOutOfBoundsException, when there are no such nets;");
        ProbeChoice p = Told.withNets(2);
        s.outOfBounds("first -1", () -> p.part(-1, 0, 1, 1));
        s.outOfBounds("second -1", () -> p.part(0, -1, 1, 1));
        s.outOfBounds("first 2 of 2", () -> p.part(2, 0, 1, 1));
        s.outOfBounds("second 2 of 2", () -> p.part(0, 2, 1, 1));
        s.outOfBounds("12", () -> p.part(0, 12, 1, 1));
        s.outOfBounds("least", () -> p.part(Integer.MIN_VALUE, 0, 1, 1));
        s.outOfBounds("greatest", () -> p.part(0, Integer.MAX_VALUE, 1, 1));
        s.outOfBounds("one net that is not there", () -> p.part(2, 2, 1, 1));
        s.outOfBounds("the nets come before the resistances", () -> p.part(0, 2, 0, 1));
    }

    private void promise9NotSo() {
        s.promise(9, "IllegalArgumentException, when low or high is not so,");
        ProbeChoice p = Told.withNets(2);
        s.illegal("low 0", () -> p.part(0, 1, 0, 1));
        s.illegal("low -1", () -> p.part(0, 1, -1, 1));
        s.illegal("both 0", () -> p.part(0, 1, 0, 0));
        s.illegal("high 1,001", () -> p.part(0, 1, 1, 1_001));
        s.illegal("both 1,001", () -> p.part(0, 1, 1_001, 1_001));
        s.illegal("low least", () -> p.part(0, 1, Long.MIN_VALUE, 1));
        s.illegal("high greatest", () -> p.part(0, 1, 1, Long.MAX_VALUE));
        s.illegal("low 1 as an int", () -> p.part(0, 1, (1L << 32) + 1, (1L << 32) + 1));
        s.illegal("low below, 1 as an int", () -> p.part(0, 1, (-1L << 32) + 1, 1));
        s.illegal("high 2 as an int", () -> p.part(0, 1, 1, (1L << 32) + 2));
        s.noState("refused ones are not there", () -> p.span(0, 1, 0, 0));
        for (int i = 0; i < 4; i++) {
            s.due("nor did they take room", true, () -> p.part(0, 1, 1, 1));
        }
    }

    private void promise9LowAboveHigh() {
        s.promise(9, "or low is above high.");
        ProbeChoice p = Told.withNets(2);
        s.illegal("by 1", () -> p.part(0, 1, 2, 1));
        s.illegal("1,000 and 999", () -> p.part(0, 1, 1_000, 999));
        s.illegal("1,000 and 1", () -> p.part(0, 1, 1_000, 1));
        s.noState("refused ones are not there", () -> p.span(0, 1, 0, 0));
        s.due("alike is fine", true, () -> p.part(0, 1, 2, 2));
        s.due("below is fine", true, () -> p.part(0, 1, 1, 2));
    }

    private void promise10AnEnd() {
        s.promise(10, "An end of the span of all PARTS of two nets (0 the low one, 1 the high one)");
        ProbeChoice p = Told.withNets(3);
        p.part(2, 1, 3, 7);
        p.part(0, 1, 5, 9);
        s.due("low", "3/1", () -> Told.span(p, 1, 2, 0));
        s.due("high", "7/1", () -> Told.span(p, 1, 2, 1));
        s.due("either way round", "7/1", () -> Told.span(p, 2, 1, 1));
        s.due("other nets have their own", "5/1", () -> Told.span(p, 0, 1, 0));
        p.part(1, 2, 6, 42);
        s.due("of all, low", "2/1", () -> Told.span(p, 1, 2, 0));
        s.due("of all, high", "6/1", () -> Told.span(p, 2, 1, 1));
    }

    private void promise10LowestTerms() {
        s.promise(10, "as a fraction in lowest terms: above (part 0), below (1).");
        ProbeChoice p = withParts(6, 4);
        s.due("above", 12, () -> p.span(0, 1, 0, 0));
        s.due("below", 5, () -> p.span(0, 1, 0, 1));
        s.due("a whole number is over 1", "2/1", () -> Told.span(withParts(4, 4), 0, 1, 0));
        s.due("one over a whole number", "1/3", () -> Told.span(withParts(1, 1, 1), 0, 1, 0));
        s.due("nothing in common", "6/5", () -> Told.span(withParts(2, 3), 0, 1, 0));
        s.due("the greatest with little in common", 997L * 991 * 983 * 977 + "/"
                        + (991L * 983 * 977 + 997L * 983 * 977 + 997L * 991 * 977 + 997L * 991 * 983),
                () -> Told.span(withParts(997, 991, 983, 977), 0, 1, 1));
        s.due("much in common", "11200/53",
                () -> Told.span(withParts(960, 720, 840, 900), 0, 1, 1));
    }

    private void promise10NoSuchNets() {
        s.promise(10, "IndexOutOfBoundsException, when there are no such nets,");
        ProbeChoice p = withParts(5);
        s.outOfBounds("first -1", () -> p.span(-1, 1, 0, 0));
        s.outOfBounds("second -1", () -> p.span(0, -1, 0, 0));
        s.outOfBounds("first 2 of 2", () -> p.span(2, 1, 0, 0));
        s.outOfBounds("second 2 of 2", () -> p.span(0, 2, 0, 0));
        s.outOfBounds("12", () -> p.span(12, 0, 0, 0));
        s.outOfBounds("least", () -> p.span(Integer.MIN_VALUE, 0, 0, 0));
        s.outOfBounds("greatest", () -> p.span(0, Integer.MAX_VALUE, 0, 0));
        s.outOfBounds("one net that is not there", () -> p.span(2, 2, 0, 0));
    }

    private void promise10NoSuchEndOrPart() {
        s.promise(10, "end, or part;");
        ProbeChoice p = withParts(5);
        s.outOfBounds("end -1", () -> p.span(0, 1, -1, 0));
        s.outOfBounds("end 2", () -> p.span(0, 1, 2, 0));
        s.outOfBounds("end least", () -> p.span(0, 1, Integer.MIN_VALUE, 0));
        s.outOfBounds("end greatest", () -> p.span(0, 1, Integer.MAX_VALUE, 0));
        s.outOfBounds("part -1", () -> p.span(0, 1, 0, -1));
        s.outOfBounds("part 2", () -> p.span(0, 1, 0, 2));
        s.outOfBounds("part least", () -> p.span(0, 1, 1, Integer.MIN_VALUE));
        s.outOfBounds("part greatest", () -> p.span(0, 1, 1, Integer.MAX_VALUE));
        ProbeChoice none = Told.withNets(2);
        s.outOfBounds("end before there are no parts", () -> none.span(0, 1, 2, 0));
        s.outOfBounds("part before there are no parts", () -> none.span(0, 1, 0, -1));
    }

    private void promise10NoParts() {
        s.promise(10, "IllegalStateException, when they have no PARTS.");
        ProbeChoice p = Told.withNets(3);
        s.noState("none at all", () -> p.span(0, 1, 0, 0));
        p.part(0, 1, 5, 5);
        p.part(1, 2, 5, 5);
        s.noState("each has some, but not together", () -> p.span(0, 2, 1, 1));
        s.noState("either way round", () -> p.span(2, 0, 0, 1));
        s.noState("one net", () -> p.span(1, 1, 0, 0));
        p.part(2, 0, 7, 7);
        s.due("now they have", 7, () -> p.span(0, 2, 0, 0));
    }

    /** A board of 12 nets, each two of which have one part. */
    private static ProbeChoice allJoined() {
        ProbeChoice p = Told.withNets(12);
        for (int pair = 0; pair < 144; pair++) {
            if (pair / 12 < pair % 12) {
                p.part(pair % 12, pair / 12, 1, 1);
            }
        }
        return p;
    }

    private void promise11Rising() {
        s.promise(11, "The k-th net, rising, that has PARTS with both nets");
        ProbeChoice p = Told.withNets(12);
        p.part(11, 0, 1, 1);
        p.part(1, 11, 1, 1);
        p.part(5, 0, 1, 1);
        p.part(5, 1, 1, 1);
        p.part(7, 0, 1, 1);
        p.part(1, 8, 1, 1);
        s.due("5 before 11; 7 and 8 have parts with one only", "5 11", () -> Told.guards(p, 0, 1));
        s.due("either way round", "5 11", () -> Told.guards(p, 1, 0));
        s.due("other nets have others", "0 1", () -> Told.guards(p, 5, 11));
        p.part(7, 1, 1, 1);
        s.due("7 has both now", "5 7 11", () -> Told.guards(p, 0, 1));
        s.due("one net named twice", "5 7 11", () -> Told.guards(p, 0, 0));
    }

    private void promise11Neither() {
        s.promise(11, "(and is neither);");
        ProbeChoice p = Told.withNets(3);
        p.part(0, 1, 1, 1);
        p.part(0, 0, 1, 1);
        p.part(1, 1, 1, 1);
        s.none("neither of two with parts", () -> p.guard(0, 1, 0));
        p.part(2, 0, 1, 1);
        p.part(2, 1, 1, 1);
        s.due("only the third", "2", () -> Told.guards(p, 0, 1));
        s.due("all joined, the first two", "2 3 4 5 6 7 8 9 10 11",
                () -> Told.guards(allJoined(), 0, 1));
        s.due("all joined, the last two", "0 1 2 3 4 5 6 7 8 9",
                () -> Told.guards(allJoined(), 11, 10));
    }

    private void promise11NotSoMany() {
        s.promise(11, "NONE, when there are not so many");
        ProbeChoice p = allJoined();
        s.due("9 of 10", 11, () -> p.guard(0, 1, 9));
        s.none("10 of 10", () -> p.guard(0, 1, 10));
        s.none("12", () -> p.guard(0, 1, 12));
        s.none("greatest", () -> p.guard(0, 1, Integer.MAX_VALUE));
        s.none("0 of 0", () -> Told.withNets(2).guard(0, 1, 0));
    }

    private void promise11Below() {
        s.promise(11, "(or k is below 0).");
        ProbeChoice p = allJoined();
        s.none("-1", () -> p.guard(0, 1, -1));
        s.none("least", () -> p.guard(0, 1, Integer.MIN_VALUE));
        s.none("-1 of 0", () -> Told.withNets(2).guard(0, 1, -1));
    }

    private void promise11NoSuchNets() {
        s.promise(11, "IndexOutOfBoundsException, when there are no such nets.");
        ProbeChoice p = withParts(5);
        s.outOfBounds("first -1", () -> p.guard(-1, 1, 0));
        s.outOfBounds("second -1", () -> p.guard(0, -1, 0));
        s.outOfBounds("first 2 of 2", () -> p.guard(2, 1, 0));
        s.outOfBounds("second 2 of 2", () -> p.guard(0, 2, 0));
        s.outOfBounds("12", () -> p.guard(12, 0, 0));
        s.outOfBounds("least", () -> p.guard(Integer.MIN_VALUE, 0, 0));
        s.outOfBounds("greatest", () -> p.guard(0, Integer.MAX_VALUE, 0));
        s.outOfBounds("with k below 0 too", () -> p.guard(0, 2, -1));
        s.outOfBounds("with k too great too", () -> p.guard(2, 0, 99));
    }
}
