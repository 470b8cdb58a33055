/** Failed rows and the nets that explain them: promises 12 to 15, and the terms they use. */
final class RowSentences {
    private final Sentences s;

    RowSentences(Sentences s) {
        this.s = s;
    }

    void all() {
        s.each(
                this::termsTwoNets,
                this::termsExplained,
                this::termsSmallest,
                this::termsLowestLeast,
                this::termsLowestSecond,
                this::promise12Failed,
                this::promise12Already,
                this::promise12OneNet,
                this::promise12NoSuchNets,
                this::promise13HowMany,
                this::promise14Rising,
                this::promise14HowManyRows,
                this::promise14NoneSuch,
                this::promise14What,
                this::promise15HowMany,
                this::promise15NoSuchNet);
    }

    /** A board of 12 nets on which the rows failed, each told as 100 times a net and another. */
    private static ProbeChoice failed(int... rows) {
        ProbeChoice p = Told.withNets(12);
        for (int row : rows) {
            p.fail(16 * (row / 100) + row % 100);
        }
        return p;
    }

    /** All rows of the first so many nets, the higher net first. */
    private static ProbeChoice allFailed(int nets) {
        ProbeChoice p = Told.withNets(12);
        for (int a = 0; a < nets; a++) {
            for (int b = a + 1; b < nets; b++) {
                p.fail(16 * b + a);
            }
        }
        return p;
    }

    private void termsTwoNets() {
        s.terms("ROWS are two nets, the lower one and the higher one;");
        ProbeChoice p = Told.withNets(12);
        s.due("the lower one first", true, () -> p.fail(16 * 2 + 9));
        s.due("the same row, the higher one first", false, () -> p.fail(16 * 9 + 2));
        s.due("the lower one has it", 1, () -> p.faults(2));
        s.due("the higher one has it", 1, () -> p.faults(9));
        s.due("the lowest two", true, () -> p.fail(1));
        s.due("the highest two", true, () -> p.fail(16 * 11 + 10));
    }

    private void termsExplained() {
        s.terms("those that FAILED are EXPLAINED by a set of nets when each has one of them.");
        s.due("no rows: the empty set", "", () -> Told.suspects(failed()));
        s.due("one row: one net", "3", () -> Told.suspects(failed(305)));
        s.due("two rows that share a net", "5", () -> Told.suspects(failed(305, 506)));
        s.due("two rows apart", "3 6", () -> Told.suspects(failed(305, 607)));
        s.due("three in a ring", "3 5", () -> Told.suspects(failed(305, 506, 603)));
        s.due("all rows", "0 1 2 3 4 5 6 7 8 9 10", () -> Told.suspects(allFailed(12)));
    }

    private void termsSmallest() {
        s.terms("The SUSPECTS are the smallest such set,");
        s.due("the highest net alone", "11",
                () -> Told.suspects(failed(11, 111, 211, 311, 411, 511, 611, 711, 811, 911, 1011)));
        s.due("the two highest, not the three lowest", "10 11",
                () -> Told.suspects(failed(10, 11, 110, 111, 210, 211)));
        s.due("not the net with most rows first", "1 2 3",
                () -> Told.suspects(failed(1, 2, 3, 104, 205, 306)));
    }

    private void termsLowestLeast() {
        s.terms("of those that with the lowest least net,");
        s.due("one row", "0", () -> Told.suspects(failed(1100)));
        s.due("a chain of three rows", "3 6", () -> Told.suspects(failed(305, 506, 607)));
        s.due("0 and 11, not 1 and 2", "0 11", () -> Told.suspects(failed(1, 2, 1101, 1102)));
    }

    private void termsLowestSecond() {
        s.terms("of these that with the lowest second one, and so on.");
        s.due("two rows apart", "0 2", () -> Told.suspects(failed(1, 302)));
        s.due("0, 3 and 11, not 0, 4 and 5", "0 3 11",
                () -> Told.suspects(failed(1, 2, 304, 305, 1104, 1105)));
        s.due("six rows apart", "0 2 4 6 8 10",
                () -> Told.suspects(failed(1, 302, 405, 706, 809, 1110)));
        s.due("four in a ring", "0 2", () -> Told.suspects(failed(1, 102, 203, 300)));
        s.due("five in a ring", "0 1 3", () -> Told.suspects(failed(1, 102, 203, 304, 400)));
    }

    private void promise12Failed() {
        s.promise(12, "A row FAILED: row is 16 times a net and another one. True;");
        ProbeChoice p = Told.withNets(11);
        p.net(false);
        s.due("1", true, () -> p.fail(1));
        s.due("16 times 2", true, () -> p.fail(32));
        s.due("the greatest that is one", true, () -> p.fail(16 * 11 + 10));
        s.due("0 and 11, the second as great as it can be", true, () -> p.fail(11));
        s.due("net 0 has three", 3, () -> p.faults(0));
        s.due("net 2 has one", 1, () -> p.faults(2));
        s.due("net 11 has two", 2, () -> p.faults(11));
    }

    private void promise12Already() {
        s.promise(12, "false, when that row (either way round) FAILED already,");
        ProbeChoice p = failed(1011, 1);
        s.due("as before", false, () -> p.fail(16 * 10 + 11));
        s.due("the other way round", false, () -> p.fail(16 * 11 + 10));
        s.due("0 and 1, the other way round", false, () -> p.fail(16));
        s.due("it counts once", 1, () -> p.faults(10));
        s.due("for both nets", 1, () -> p.faults(11));
        ProbeChoice all = allFailed(12);
        s.due("when all 66 rows failed", false, () -> all.fail(16 * 5 + 8));
        s.due("each net has 11 then", 11, () -> all.faults(5));
    }

    private void promise12OneNet() {
        s.promise(12, "or it is one net.");
        ProbeChoice p = Told.withNets(12);
        s.due("the first", false, () -> p.fail(0));
        s.due("the last", false, () -> p.fail(17 * 11));
        s.due("it has no rows by that", 0, () -> p.faults(11));
        s.due("and is no suspect", 0, p::suspects);
    }

    private void promise12NoSuchNets() {
        s.promise(12, "IndexOutOfBoundsException, when there are no such nets.");
        ProbeChoice p = Told.withNets(12);
        s.outOfBounds("0 and 12", () -> p.fail(12));
        s.outOfBounds("0 and 15", () -> p.fail(15));
        s.outOfBounds("12 and 0", () -> p.fail(16 * 12));
        s.outOfBounds("11 and 12", () -> p.fail(16 * 11 + 12));
        s.outOfBounds("12 twice", () -> p.fail(17 * 12));
        s.outOfBounds("16 and 0", () -> p.fail(256));
        s.outOfBounds("-1", () -> p.fail(-1));
        s.outOfBounds("-15", () -> p.fail(-15));
        s.outOfBounds("-16", () -> p.fail(-16));
        s.outOfBounds("least", () -> p.fail(Integer.MIN_VALUE));
        s.outOfBounds("least and 1", () -> p.fail(Integer.MIN_VALUE + 1));
        s.outOfBounds("greatest", () -> p.fail(Integer.MAX_VALUE));
        s.due("refused ones failed no row", 0, p::suspects);
        ProbeChoice few = Told.withNets(2);
        s.outOfBounds("1 and 2 of 2", () -> few.fail(16 + 2));
        s.outOfBounds("2 and 1 of 2", () -> few.fail(32 + 1));
        s.outOfBounds("one net that is not there", () -> few.fail(17 * 2));
        s.due("0 and 1 of 2", true, () -> few.fail(1));
    }

    private void promise13HowMany() {
        s.promise(13, "How many SUSPECTS there are.");
        s.due("a new object", 0, () -> new ProbeChoice().suspects());
        s.due("no row failed", 0, () -> Told.withNets(12).suspects());
        ProbeChoice p = failed(305);
        s.due("one row", 1, p::suspects);
        s.due("asked again", 1, p::suspects);
        p.fail(16 * 6 + 7);
        s.due("another row", 2, p::suspects);
        p.fail(16 * 7 + 6);
        s.due("the same row again", 2, p::suspects);
        s.due("six apart", 6, () -> failed(1, 203, 405, 607, 809, 1011).suspects());
        s.due("all rows of 12 nets, the most", 11, () -> allFailed(12).suspects());
        s.due("all rows of 3 nets", 2, () -> allFailed(3).suspects());
    }

    private void promise14Rising() {
        s.promise(14, "The k-th SUSPECT, rising: the net (what 0),");
        ProbeChoice p = failed(1110, 1109, 201);
        s.due("the first", 1, () -> p.suspect(0, 0));
        s.due("the second", 11, () -> p.suspect(1, 0));
        p.fail(16 * 5 + 4);
        s.due("a row since: the second is another", 4, () -> p.suspect(1, 0));
        s.due("and the last is third", 11, () -> p.suspect(2, 0));
        ProbeChoice all = allFailed(12);
        s.due("the last of 11", 10, () -> all.suspect(10, 0));
    }

    private void promise14HowManyRows() {
        s.promise(14, "how many FAILED rows have it (1).");
        ProbeChoice p = failed(1110, 1109, 201);
        s.due("the first has one", 1, () -> p.suspect(0, 1));
        s.due("the second has two", 2, () -> p.suspect(1, 1));
        p.fail(16 * 10 + 11);
        s.due("a row that failed already", 2, () -> p.suspect(1, 1));
        p.fail(16 * 1 + 11);
        s.due("a row that both have, the first", 2, () -> p.suspect(0, 1));
        s.due("a row that both have, the second", 3, () -> p.suspect(1, 1));
        ProbeChoice all = allFailed(12);
        s.due("the most", 11, () -> all.suspect(10, 1));
    }

    private void promise14NoneSuch() {
        s.promise(14, "IndexOutOfBoundsException, when there is none such,");
        s.outOfBounds("a new object's", () -> new ProbeChoice().suspect(0, 0));
        s.outOfBounds("no row failed", () -> Told.withNets(12).suspect(0, 1));
        ProbeChoice p = failed(305, 607);
        s.outOfBounds("2 of 2", () -> p.suspect(2, 0));
        s.outOfBounds("2 of 2, its rows", () -> p.suspect(2, 1));
        s.outOfBounds("3, though it is a suspect's net", () -> p.suspect(3, 0));
        s.outOfBounds("-1", () -> p.suspect(-1, 0));
        s.outOfBounds("-1, its rows", () -> p.suspect(-1, 1));
        s.outOfBounds("least", () -> p.suspect(Integer.MIN_VALUE, 0));
        s.outOfBounds("greatest", () -> p.suspect(Integer.MAX_VALUE, 0));
        ProbeChoice all = allFailed(12);
        s.outOfBounds("11 of 11", () -> all.suspect(11, 0));
    }

    private void promise14What() {
        s.promise(14, "or what.");
        ProbeChoice p = failed(305, 607);
        s.outOfBounds("2", () -> p.suspect(0, 2));
        s.outOfBounds("-1", () -> p.suspect(0, -1));
        s.outOfBounds("least", () -> p.suspect(1, Integer.MIN_VALUE));
        s.outOfBounds("greatest", () -> p.suspect(1, Integer.MAX_VALUE));
        s.outOfBounds("neither", () -> p.suspect(2, 2));
    }

    private void promise15HowMany() {
        s.promise(15, "How many FAILED rows have a net.");
        ProbeChoice p = failed(1100, 11, 1101, 1111);
        s.due("two, one of them told twice", 2, () -> p.faults(11));
        s.due("one, its lower net", 1, () -> p.faults(0));
        s.due("none", 0, () -> p.faults(2));
        s.due("a net that is no suspect", 1, () -> p.faults(1));
        ProbeChoice all = allFailed(12);
        s.due("the most, the first net", 11, () -> all.faults(0));
        s.due("the most, the last net", 11, () -> all.faults(11));
    }

    private void promise15NoSuchNet() {
        s.promise(15, "IndexOutOfBoundsException, when there is no such net.");
        ProbeChoice p = Told.withNets(2);
        s.outOfBounds("-1", () -> p.faults(-1));
        s.outOfBounds("2 of 2", () -> p.faults(2));
        s.outOfBounds("12", () -> p.faults(12));
        s.outOfBounds("least", () -> p.faults(Integer.MIN_VALUE));
        s.outOfBounds("greatest", () -> p.faults(Integer.MAX_VALUE));
        s.due("the last there is", 0, () -> p.faults(1));
    }
}
