/** What many tests need to have told first. */
final class Harbour {
    static final int FAMILIES = 5;
    static final int YEAR = 365;

    private Harbour() {
    }

    static void pass(Detentionbureau x, int days) {
        for (int left = days; left > 0; left -= 500) {
            x.pass(Math.min(left, 500));
        }
    }

    /** All five, of a term that has no anniversary. */
    static void certify(Detentionbureau x, int ship) {
        for (int family = 0; family < FAMILIES; family++) {
            x.issue(ship, family, YEAR);
        }
    }

    /** A new cargo ship with all certificates. */
    static int cargo(Detentionbureau x, int built, int flag, int body) {
        int ship = x.ship(built, 1000, Detentionbureau.CARGO, flag, body);
        certify(x, ship);
        return ship;
    }

    /** A bureau in which the code 0 is a ground for all, from the first day on. */
    static Detentionbureau withRule() {
        Detentionbureau x = new Detentionbureau();
        x.rule(0, 0, 7, 0, 0);
        return x;
    }

    static int callAndVisit(Detentionbureau x, int ship, int port) {
        x.calls(ship, port);
        return x.visit(ship);
    }

    /** Calls, is visited and leaves. */
    static int stay(Detentionbureau x, int ship, int port) {
        int visit = callAndVisit(x, ship, port);
        x.leaves(ship);
        return visit;
    }

    /** Calls, is visited, found with a weight of 10 and DETAINED. */
    static int detained(Detentionbureau x, int ship, int port) {
        int visit = callAndVisit(x, ship, port);
        x.finds(visit, 0, 10);
        x.detain(visit);
        return visit;
    }

    static void mendAndRelease(Detentionbureau x, int ship, int visit) {
        x.mends(visit, 0, false);
        x.release(ship);
    }

    /** The whole of it, and away again. */
    static int detention(Detentionbureau x, int ship, int port) {
        int visit = detained(x, ship, port);
        mendAndRelease(x, ship, visit);
        x.leaves(ship);
        return visit;
    }
}
