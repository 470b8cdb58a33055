/** Where a run's probes are flown to, and the fixture's text: promises 16, 17, 20 and 21. */
final class FlightSentences {
    private final Sentences s;

    FlightSentences(Sentences s) {
        this.s = s;
    }

    void all() {
        s.each(
                this::promise16FromZero,
                this::promise16Nearest,
                this::promise16LowestPoint,
                this::promise16NotYet,
                this::promise16NotSoMany,
                this::promise16Below,
                this::promise17GreaterWay,
                this::promise20FromZero,
                this::promise20BehindTheLast,
                this::promise20InOrder,
                this::promise20Line,
                this::promise20BelowZero,
                this::promise21ByPlace,
                this::promise21NotSoMany,
                this::promise21Below);
    }

    private static ProbeChoice flown(long... xys) {
        ProbeChoice p = Told.withPlaces(xys);
        p.run(8);
        return p;
    }

    /** Eight places in a row, the nearest first. */
    private static ProbeChoice eight() {
        return flown(10, 0, 20, 0, 30, 0, 40, 0, 50, 0, 60, 0, 70, 0, 80, 0);
    }

    private void promise16FromZero() {
        s.promise(16, "The k-th PROBE that is flown to, from the place 0, 0 on");
        s.due("not from the least place", "2 1 0",
                () -> Told.flight(flown(-1_000_000, -1_000_000, -500, -500, 3, 3)));
        s.due("one at 0, 0 comes first", "1 0", () -> Told.flight(flown(2, 0, 0, 0)));
        s.due("one alone", "0", () -> Told.flight(flown(1_000_000, -1_000_000)));
    }

    private void promise16Nearest() {
        s.promise(16, "always to the nearest one (straight;");
        s.due("not by the greater way", 1, () -> flown(70, 71, 99, 0).fly(0));
        s.due("not by both ways together", 0, () -> flown(70, 71, 101, 0).fly(0));
        s.due("nearer by a hair", 1, () -> flown(1_000_000, 2, 1_000_000, 0).fly(0));
        s.due("from the last one, not from 0, 0", "0 2 1",
                () -> Told.flight(flown(10, 0, -11, 0, 25, 0)));
        s.due("not along the shortest way of all", "0 1 2",
                () -> Told.flight(flown(10, 0, 18, 0, -11, 0)));
        s.due("65,536 is far, though its square is 0 as an int", "1 0",
                () -> Told.flight(flown(65_536, 0, 100, 0)));
        s.due("corner to corner is farther than along the side, beyond an int", "0 2 1",
                () -> Told.flight(flown(-1_000_000, -1_000_000, 1_000_000, 1_000_000,
                        1_000_000, -1_000_000)));
    }

    private void promise16LowestPoint() {
        s.promise(16, "of several the lowest point)");
        s.due("as far from 0, 0", "0 1", () -> Told.flight(flown(0, 10, 0, -10)));
        ProbeChoice p = Told.withNets(2);
        p.point(1, 10, 0, 1);
        p.point(0, -6, 8, 1);
        p.run(8);
        s.due("the lowest point, not the lowest net", "0 1", () -> Told.flight(p));
        s.due("of three as far", "0 1 2", () -> Told.flight(flown(3, 4, -5, 0, 0, -5)));
        s.due("as far from the last one", "0 1 2", () -> Told.flight(flown(5, 0, 5, 9, 5, -9)));
    }

    private void promise16NotYet() {
        s.promise(16, "that was not yet: its point;");
        s.due("each once", "0 1 2 3 4 5 6 7", () -> Told.flight(eight()));
        s.due("there and back again", "1 2 0 3", () -> Told.flight(flown(-9, 0, 1, 0, 5, 0, -30, 0)));
    }

    private void promise16NotSoMany() {
        s.promise(16, "NONE, when there are not so many");
        ProbeChoice p = eight();
        s.due("7 of 8", 7, () -> p.fly(7));
        s.none("8 of 8", () -> p.fly(8));
        s.none("greatest", () -> p.fly(Integer.MAX_VALUE));
        p.run(2);
        s.none("2 of 2, though the run before had more", () -> p.fly(2));
        p.run(0);
        s.none("0 of 0", () -> p.fly(0));
        s.none("no run", () -> Told.withPlaces(0, 0).fly(0));
        s.none("a new object's", () -> new ProbeChoice().fly(0));
    }

    private void promise16Below() {
        s.promise(16, "(or k is below 0).");
        ProbeChoice p = eight();
        s.none("-1", () -> p.fly(-1));
        s.none("least", () -> p.fly(Integer.MIN_VALUE));
    }

    private void promise17GreaterWay() {
        s.promise(17, "How long that takes: of each flight the greater way, along x or y.");
        s.due("no run", 0, () -> Told.withPlaces(9, 9).seconds());
        s.due("no probes", 0, () -> flown().seconds());
        s.due("to 0, 0", 0, () -> flown(0, 0).seconds());
        s.due("along x", 10, () -> flown(10, 9).seconds());
        s.due("along x, to the left", 10, () -> flown(-10, 9).seconds());
        s.due("along y", 10, () -> flown(-9, 10).seconds());
        s.due("along y, down", 10, () -> flown(9, -10).seconds());
        s.due("both alike", 10, () -> flown(-10, 10).seconds());
        s.due("y, then x, and not back", 10 + 20, () -> flown(0, 10, 20, 15).seconds());
        s.due("from side to side", 3_000_000,
                () -> flown(1_000_000, 1_000_000, -1_000_000, -1_000_000).seconds());
        s.due("in the order flown, not by nets", 5 + 15, () -> flown(20, 0, 5, 0).seconds());
        s.due("of eight", 80, () -> eight().seconds());
    }

    private void promise20FromZero() {
        s.promise(20, "A character of the fixture's text, from 0;");
        ProbeChoice p = flown(5, 7);
        s.due("p", 112, () -> p.text(0));
        s.due("its number", 48, () -> p.text(1));
        s.due("a space", 32, () -> p.text(2));
        s.due("x", 53, () -> p.text(3));
        s.due("a space", 32, () -> p.text(4));
        s.due("y", 55, () -> p.text(5));
        s.due("a line feed", 10, () -> p.text(6));
    }

    private void promise20BehindTheLast() {
        s.promise(20, "NONE behind the last one:");
        ProbeChoice p = flown(5, 7);
        s.none("the first behind", () -> p.text(7));
        s.none("greatest", () -> p.text(Integer.MAX_VALUE));
        p.run(0);
        s.none("no probes", () -> p.text(0));
        s.none("no run", () -> Told.withPlaces(5, 7).text(0));
        s.none("a new object's", () -> new ProbeChoice().text(0));
        ProbeChoice longest = longest();
        longest.run(8);
        s.due("the last of the longest", 10, () -> longest.text(168));
        s.none("behind the longest", () -> longest.text(169));
        longest.run(1);
        s.none("shorter than the run before", () -> longest.text(22));
    }

    /** Points above 9 and x of 8 letters; y has 8 letters at the first one, 7 at the others. */
    private static ProbeChoice longest() {
        ProbeChoice p = Told.withNets(12);
        for (int point = 0; point < 12; point++) {
            p.point(8 + point / 3, 0, 0, 1);
        }
        for (int net = 0; net < 8; net++) {
            p.point(net, -1_000_000, -1_000_000 + 2 * net, 1);
        }
        return p;
    }

    private void promise20InOrder() {
        s.promise(20, "for each PROBE, in the order of order(),");
        s.due("by place", "p2 -7 0\np0 5 0\np1 9 0\n", () -> Told.text(flown(5, 0, 9, 0, -7, 0)));
        s.due("probes alone", "p0 5 0\np2 9 0\n", () -> Told.text(flown(5, 0, 6, 0, 9, 0)));
    }

    private void promise20Line() {
        s.promise(20, "p, its point, a space, x, a space, y, and a line feed (10).");
        s.due("0", "p0 0 0\n", () -> Told.text(flown(0, 0)));
        s.due("-1 and 1", "p0 -1 1\n", () -> Told.text(flown(-1, 1)));
        s.due("9 and 10", "p0 9 10\n", () -> Told.text(flown(9, 10)));
        s.due("-9 and -10", "p0 -9 -10\n", () -> Told.text(flown(-9, -10)));
        s.due("zeros inside", "p0 100 -100100\n", () -> Told.text(flown(100, -100_100)));
        s.due("six digits", "p0 999999 -100000\n", () -> Told.text(flown(999_999, -100_000)));
        s.due("the ends", "p0 1000000 -1000000\n", () -> Told.text(flown(1_000_000, -1_000_000)));
        s.due("the ends, other way round", "p0 -1000000 1000000\n",
                () -> Told.text(flown(-1_000_000, 1_000_000)));
        ProbeChoice longest = longest();
        longest.run(8);
        StringBuilder lines = new StringBuilder("p12 -1000000 -1000000\n");
        for (int net = 1; net < 8; net++) {
            lines.append("p").append(12 + net).append(" -1000000 -");
            lines.append(1_000_000 - 2 * net).append("\n");
        }
        s.due("eight long lines", lines, () -> Told.text(longest));
    }

    private void promise20BelowZero() {
        s.promise(20, "IndexOutOfBoundsException, when i is below 0.");
        ProbeChoice p = flown(5, 7);
        s.outOfBounds("-1", () -> p.text(-1));
        s.outOfBounds("least", () -> p.text(Integer.MIN_VALUE));
        s.outOfBounds("without a run too", () -> new ProbeChoice().text(-1));
    }

    private void promise21ByPlace() {
        s.promise(21, "The k-th PROBE by its place, x, then y, then its number: its point;");
        s.due("x, falling by nets", "2 1 0", () -> Told.order(flown(9, 0, 5, 0, -5, 0)));
        s.due("x before y", "1 0", () -> Told.order(flown(2, -1_000_000, 1, 1_000_000)));
        s.due("one x, then y", "1 2 0", () -> Told.order(flown(5, 9, 5, -9, 5, 0)));
        s.due("the ends", "1 0", () -> Told.order(flown(1_000_000, 0, -1_000_000, 0)));
        s.due("one alone", "0", () -> Told.order(flown(5, 5)));
        s.due("eight, falling", "7 6 5 4 3 2 1 0",
                () -> Told.order(flown(80, 0, 70, 0, 60, 0, 50, 0, 40, 0, 30, 0, 20, 0, 10, 0)));
        // Two probes are never at one place, as each radius is 1 at least: numbers never decide.
        s.due("one place has one probe", "0", () -> Told.order(flown(5, 5, 5, 5)));
    }

    private void promise21NotSoMany() {
        s.promise(21, "NONE, when there are not so many");
        ProbeChoice p = eight();
        s.due("7 of 8", 7, () -> p.order(7));
        s.none("8 of 8", () -> p.order(8));
        s.none("greatest", () -> p.order(Integer.MAX_VALUE));
        p.run(2);
        s.none("2 of 2, though the run before had more", () -> p.order(2));
        p.run(0);
        s.none("0 of 0", () -> p.order(0));
        s.none("no run", () -> Told.withPlaces(0, 0).order(0));
        s.none("a new object's", () -> new ProbeChoice().order(0));
    }

    private void promise21Below() {
        s.promise(21, "(or k is below 0).");
        ProbeChoice p = eight();
        s.none("-1", () -> p.order(-1));
        s.none("least", () -> p.order(Integer.MIN_VALUE));
    }
}
