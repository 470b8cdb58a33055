/** Boards to begin with, and whole rows of answers as texts. */
final class Told {
    private Told() {
    }

    /** A board with so many nets that must be reached. */
    static ProbeChoice withNets(int count) {
        ProbeChoice p = new ProbeChoice();
        for (int i = 0; i < count; i++) {
            p.net(true);
        }
        return p;
    }

    /** A board with one net for each place, in their order, each with one point of radius 1. */
    static ProbeChoice withPlaces(long... xys) {
        ProbeChoice p = new ProbeChoice();
        for (int i = 0; i + 1 < xys.length; i += 2) {
            int net = p.net(true);
            p.point(net, xys[i], xys[i + 1], 1);
        }
        return p;
    }

    /** How many probes a run takes, and which. */
    static String run(ProbeChoice p, long nodes) {
        return p.run(nodes) + ": " + probes(p);
    }

    static String probes(ProbeChoice p) {
        return row(p::probe);
    }

    static String outs(ProbeChoice p) {
        return row(p::out);
    }

    static String flight(ProbeChoice p) {
        return row(p::fly);
    }

    static String order(ProbeChoice p) {
        return row(p::order);
    }

    static String guards(ProbeChoice p, int netA, int netB) {
        return row(k -> p.guard(netA, netB, k));
    }

    /** An end of a span as above/below. */
    static String span(ProbeChoice p, int netA, int netB, int end) {
        return p.span(netA, netB, end, 0) + "/" + p.span(netA, netB, end, 1);
    }

    static String suspects(ProbeChoice p) {
        int count = p.suspects();
        return row(k -> k < count ? p.suspect(k, 0) : ProbeChoice.NONE);
    }

    static String text(ProbeChoice p) {
        StringBuilder s = new StringBuilder();
        int letter = p.text(0);
        while (letter != ProbeChoice.NONE && s.length() < 1_000) {
            s.append((char) letter);
            letter = p.text(s.length());
        }
        return s.toString();
    }

    private interface Row {
        int at(int k);
    }

    /** Up to the first NONE; a row that has no end is cut off. */
    private static String row(Row row) {
        StringBuilder s = new StringBuilder();
        for (int k = 0; k < 40 && row.at(k) != ProbeChoice.NONE; k++) {
            s.append(k == 0 ? "" : " ").append(row.at(k));
        }
        return s.toString();
    }
}
