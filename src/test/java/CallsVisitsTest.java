/** Promises 9 to 13. */
final class CallsVisitsTest {
    private static final Check CHECK = new Check();
    private static final int INITIAL = Detentionbureau.INITIAL;
    private static final int DETAILED = Detentionbureau.DETAILED;
    private static final int EXPANDED = Detentionbureau.EXPANDED;

    public static void main(String[] args) {
        promise9Calls();
        promise9WindowStandard();
        promise9WindowHigh();
        promise9WindowLow();
        promise10Leaves();
        promise11Visit();
        promise11Sixty();
        promise11Old();
        promise11High();
        promise11ClearGrounds();
        promise11FirstPutOff();
        promise12Finds();
        promise12Places();
        promise13Mends();
        promise13PutsOff();
        CHECK.end();
    }

    private static void promise9Calls() {
        Detentionbureau x = new Detentionbureau();
        Harbour.cargo(x, 0, 0, 0);
        CHECK.noIndex("ship -1", () -> x.calls(-1, 0));
        CHECK.noIndex("ship 1", () -> x.calls(1, 0));
        CHECK.noIndex("port -1", () -> x.calls(0, -1));
        CHECK.noIndex("port 4", () -> x.calls(0, 4));
        CHECK.due("never visited", x.calls(0, 3), 2);
        CHECK.due("it is there", x.ofShip(0, 3), 3);
        CHECK.noState("it is at a port", () -> x.calls(0, 3));
        CHECK.noState("it is at another port", () -> x.calls(0, 0));
        CHECK.noIndex("no port, though it is at one", () -> x.calls(0, 4));
        x.leaves(0);
        CHECK.due("never visited, again", x.calls(0, 0), 2);
    }

    /** Tells the priorities on days counted behind the latest visit, which is of today. */
    private static void window(Detentionbureau x, int ship, String risk, int begin, int end) {
        CHECK.due(risk + ": the day itself", x.ofShip(ship, 2), 0);
        Harbour.pass(x, begin - 1);
        CHECK.due(risk + ": ahead of the window", x.calls(ship, 0), 0);
        CHECK.due(risk + ": leaving ahead of the window", x.leaves(ship), false);
        x.pass(1);
        CHECK.due(risk + ": it begins", x.calls(ship, 0), 1);
        CHECK.due(risk + ": leaving in the window", x.leaves(ship), false);
        Harbour.pass(x, end - begin);
        CHECK.due(risk + ": its last day", x.calls(ship, 0), 1);
        CHECK.due(risk + ": leaving on its last day", x.leaves(ship), false);
        x.pass(1);
        CHECK.due(risk + ": it has ended", x.calls(ship, 0), 2);
        CHECK.due(risk + ": leaving behind it", x.leaves(ship), true);
        CHECK.due(risk + ": missed", x.missed(0), 1);
    }

    private static void promise9WindowStandard() {
        Detentionbureau x = new Detentionbureau();
        int ship = Harbour.cargo(x, 0, 0, 0);
        x.pass(20);
        Harbour.stay(x, ship, 1);
        CHECK.due("STANDARD", x.ofShip(ship, 1), Detentionbureau.STANDARD);
        window(x, ship, "STANDARD", 300, 360);
    }

    private static void promise9WindowHigh() {
        Detentionbureau x = Harbour.withRule();
        int ship = x.ship(-5000, 1000, Detentionbureau.PASSENGER, 0, 0);
        x.suspend(0, true);
        int visit = Harbour.callAndVisit(x, ship, 1);
        for (int place = 0; place < 6; place++) {
            CHECK.due("STANDARD with 4", x.ofShip(ship, 1), Detentionbureau.STANDARD);
            x.finds(visit, 0, 1);
        }
        x.leaves(ship);
        CHECK.due("HIGH with 5", x.ofShip(ship, 1), Detentionbureau.HIGH);
        window(x, ship, "HIGH", 150, 180);
    }

    private static void promise9WindowLow() {
        Detentionbureau x = new Detentionbureau();
        int ship = x.ship(0, 1000, Detentionbureau.CARGO, 0, 0);
        for (int visit = 0; visit < 50; visit++) {
            CHECK.due("STANDARD ahead of WHITE", x.ofShip(ship, 1), Detentionbureau.STANDARD);
            Harbour.stay(x, ship, 1);
        }
        CHECK.due("LOW with WHITE", x.ofShip(ship, 1), Detentionbureau.LOW);
        x.suspend(0, true);
        CHECK.due("STANDARD with a point, though WHITE", x.ofShip(ship, 1), Detentionbureau.STANDARD);
        x.suspend(0, false);
        window(x, ship, "LOW", 720, 1080);
    }

    private static void promise10Leaves() {
        Detentionbureau x = Harbour.withRule();
        Harbour.cargo(x, 0, 0, 0);
        Harbour.cargo(x, 0, 0, 0);
        CHECK.noIndex("ship -1", () -> x.leaves(-1));
        CHECK.noIndex("ship 2", () -> x.leaves(2));
        CHECK.noState("it is at no port", () -> x.leaves(0));
        x.calls(0, 1);
        CHECK.due("never visited", x.leaves(0), true);
        CHECK.due("it is at no port then", x.ofShip(0, 3), Detentionbureau.NONE);
        CHECK.noState("it has left", () -> x.leaves(0));
        x.calls(0, 1);
        CHECK.due("never visited, again", x.leaves(0), true);
        x.calls(1, 1);
        CHECK.due("another ship", x.leaves(1), true);
        CHECK.due("each leaving by itself", x.missed(1), 3);
        CHECK.due("not at another port", x.missed(0), 0);
        int visit = Harbour.detained(x, 0, 2);
        CHECK.noState("it is detained", () -> x.leaves(0));
        CHECK.due("it is there still", x.ofShip(0, 3), 2);
        Harbour.mendAndRelease(x, 0, visit);
        x.pass(361);
        CHECK.due("priority 2, visited since it came", x.ofShip(0, 2), 2);
        CHECK.due("visited since it came", x.leaves(0), false);
        x.calls(0, 2);
        CHECK.due("visited ahead of that", x.leaves(0), true);
        CHECK.due("missed(2)", x.missed(2), 1);
    }

    private static void promise11Visit() {
        Detentionbureau x = new Detentionbureau();
        Harbour.cargo(x, 0, 3, 0);
        Harbour.cargo(x, 0, 3, 0);
        CHECK.noIndex("ship -1", () -> x.visit(-1));
        CHECK.noIndex("ship 2", () -> x.visit(2));
        CHECK.noState("it is at no port", () -> x.visit(0));
        x.calls(0, 1);
        x.pass(2);
        CHECK.due("visit(0)", x.visit(0), 0);
        CHECK.noState("visited since it came", () -> x.visit(0));
        x.pass(3);
        CHECK.noState("visited since it came, days ago", () -> x.visit(0));
        x.calls(1, 2);
        CHECK.due("visit(1)", x.visit(1), 1);
        x.leaves(0);
        CHECK.noState("it has left", () -> x.visit(0));
        x.calls(0, 1);
        CHECK.due("visit(0) as it came again", x.visit(0), 2);
        CHECK.due("the ship", x.ofVisit(1, 0), 1);
        CHECK.due("the port", x.ofVisit(1, 1), 2);
        CHECK.due("the day", x.ofVisit(1, 2), 5);
        CHECK.due("the first one's day", x.ofVisit(0, 2), 2);
        CHECK.due("INITIAL", x.ofVisit(0, 3), INITIAL);
    }

    private static void promise11Sixty() {
        Detentionbureau x = new Detentionbureau();
        x.ship(0, 1000, 0, 0, 0);
        for (int visit = 0; visit < 60; visit++) {
            CHECK.due("visit " + visit, Harbour.stay(x, 0, 0), visit);
        }
        x.calls(0, 0);
        CHECK.noState("a sixty-first", () -> x.visit(0));
        CHECK.noIndex("a sixty-first of no ship", () -> x.visit(1));
        CHECK.due("it was not visited", x.ofShip(0, 3), 0);
        CHECK.noIndex("ofVisit(60, 0)", () -> x.ofVisit(60, 0));
    }

    private static int depth(Detentionbureau x, int ship) {
        return x.ofVisit(Harbour.stay(x, ship, 0), 3);
    }

    private static void promise11Old() {
        Detentionbureau x = new Detentionbureau();
        for (int kind = 0; kind < 3; kind++) {
            x.ship(-4380, 1000, kind, kind, 0);
            Harbour.certify(x, kind);
            CHECK.due("not old yet, kind " + kind, depth(x, kind), INITIAL);
        }
        x.pass(1);
        CHECK.due("old and CARGO", depth(x, 0), INITIAL);
        CHECK.due("old and TANKER", depth(x, 1), EXPANDED);
        CHECK.due("old and PASSENGER", depth(x, 2), EXPANDED);
        x.suspend(0, true);
        CHECK.due("EXPANDED goes ahead of DETAILED", depth(x, 1), EXPANDED);
        CHECK.due("old and CARGO, with clear grounds", depth(x, 0), DETAILED);
    }

    private static void promise11High() {
        Detentionbureau x = Harbour.withRule();
        Harbour.cargo(x, -5000, 0, 0);
        x.changes(0, 0, 1);
        x.suspend(1, true);
        Harbour.detention(x, 0, 0);
        Harbour.detention(x, 0, 0);
        CHECK.due("4 points", x.ofShip(0, 0), 4);
        CHECK.due("STANDARD and CARGO", x.ofShip(0, 1), Detentionbureau.STANDARD);
        int visit = Harbour.callAndVisit(x, 0, 0);
        CHECK.due("INITIAL with 4 points", x.ofVisit(visit, 3), INITIAL);
        for (int place = 0; place < 6; place++) {
            x.finds(visit, 0, 1);
        }
        x.leaves(0);
        CHECK.due("HIGH with 5 points", x.ofShip(0, 1), Detentionbureau.HIGH);
        CHECK.due("EXPANDED as it is HIGH", depth(x, 0), EXPANDED);
        CHECK.due("the earlier visit is as it was", x.ofVisit(visit, 3), DETAILED);
    }

    private static void promise11ClearGrounds() {
        Detentionbureau x = Harbour.withRule();
        Harbour.cargo(x, 0, 0, 0);
        x.ship(0, 1000, 0, 0, 0);
        CHECK.due("a certificate lacks", depth(x, 1), DETAILED);
        for (int family = 0; family < 4; family++) {
            x.issue(1, family, 5);
        }
        CHECK.due("OIL lacks", depth(x, 1), DETAILED);
        x.issue(1, Detentionbureau.OIL, 3);
        CHECK.due("none lacks", depth(x, 1), INITIAL);
        x.pass(4);
        CHECK.due("OIL has lapsed", depth(x, 1), DETAILED);
        int visit = Harbour.callAndVisit(x, 0, 0);
        x.finds(visit, 0, 7);
        x.finds(visit, 0, 7);
        x.leaves(0);
        CHECK.due("open, but not put off", depth(x, 0), INITIAL);
        int second = Harbour.callAndVisit(x, 0, 1);
        x.finds(second, 0, 7);
        x.mends(second, 0, true);
        x.leaves(0);
        CHECK.due("put off and not mended", depth(x, 0), DETAILED);
        CHECK.due("nor by the call behind that", depth(x, 0), DETAILED);
        x.mends(second, 0, false);
        CHECK.due("put off and mended", depth(x, 0), INITIAL);
    }

    private static void promise11FirstPutOff() {
        Detentionbureau x = Harbour.withRule();
        Harbour.cargo(x, 0, 0, 0);
        Harbour.cargo(x, 0, 0, 0);
        int visit = Harbour.callAndVisit(x, 0, 0);
        x.finds(visit, 0, 1);
        x.finds(visit, 0, 1);
        x.mends(visit, 1, true);
        CHECK.due("put off in another ship's visit", depth(x, 1), INITIAL);
        x.leaves(0);
        x.changes(0, 1, 1);
        CHECK.due("put off in the very first visit", depth(x, 0), DETAILED);
    }

    private static void promise12Finds() {
        Detentionbureau x = new Detentionbureau();
        Harbour.cargo(x, 0, 0, 0);
        x.rule(7, 0, 1, 0, 0);
        int visit = Harbour.callAndVisit(x, 0, 0);
        CHECK.noIndex("visit -1", () -> x.finds(-1, 7, 1));
        CHECK.noIndex("visit 1, of no code", () -> x.finds(1, 10, 1));
        CHECK.noArgument("code -1", () -> x.finds(0, -1, 1));
        CHECK.noArgument("code 10", () -> x.finds(0, 10, 1));
        CHECK.noArgument("weight 0", () -> x.finds(0, 7, 0));
        CHECK.noArgument("weight 11", () -> x.finds(0, 7, 11));
        CHECK.noArgument("weight 0 of no ground", () -> x.finds(0, 6, 0));
        CHECK.noState("no ground", () -> x.finds(0, 6, 1));
        CHECK.due("none found by these", x.ofVisit(visit, 4), 0);
        CHECK.due("finds(0, 7, 1)", x.finds(0, 7, 1), 0);
        x.pass(5);
        CHECK.due("on a later day, as it is there", x.finds(0, 7, 10), 1);
        x.leaves(0);
        CHECK.noState("it has left since", () -> x.finds(0, 7, 1));
        x.calls(0, 0);
        CHECK.noState("it has left since, and come again", () -> x.finds(0, 7, 1));
        CHECK.due("the visit behind that", x.visit(0), 1);
        CHECK.noState("the visit ahead of that", () -> x.finds(0, 7, 1));
        CHECK.due("each visit by itself", x.finds(1, 7, 1), 0);
    }

    private static void promise12Places() {
        Detentionbureau x = Harbour.withRule();
        Harbour.cargo(x, 0, 0, 0);
        int visit = Harbour.callAndVisit(x, 0, 0);
        for (int place = 0; place < 12; place++) {
            CHECK.due("depth with " + place, x.ofVisit(visit, 3), place < 3 ? INITIAL : DETAILED);
            CHECK.due("place " + place, x.finds(visit, 0, 1), place);
        }
        CHECK.noState("a thirteenth", () -> x.finds(visit, 0, 1));
        CHECK.noArgument("a thirteenth of no weight", () -> x.finds(visit, 0, 0));
        CHECK.due("the findings", x.ofVisit(visit, 4), 12);
        int old = x.ship(-5000, 1000, Detentionbureau.TANKER, 0, 0);
        int expanded = Harbour.callAndVisit(x, old, 0);
        for (int place = 0; place < 3; place++) {
            x.finds(expanded, 0, 1);
        }
        CHECK.due("EXPANDED stays", x.ofVisit(expanded, 3), EXPANDED);
    }

    private static void promise13Mends() {
        Detentionbureau x = Harbour.withRule();
        Harbour.cargo(x, 0, 0, 0);
        int visit = Harbour.callAndVisit(x, 0, 0);
        CHECK.noIndex("no finding yet", () -> x.mends(visit, 0, false));
        x.finds(visit, 0, 10);
        x.finds(visit, 0, 8);
        x.finds(visit, 0, 1);
        CHECK.noIndex("visit -1", () -> x.mends(-1, 0, false));
        CHECK.noIndex("visit 1", () -> x.mends(1, 0, false));
        CHECK.noIndex("finding -1", () -> x.mends(visit, -1, false));
        CHECK.noIndex("finding 3", () -> x.mends(visit, 3, false));
        CHECK.due("the second one", x.mends(visit, 1, false), 2);
        CHECK.noState("it is mended", () -> x.mends(visit, 1, false));
        CHECK.noState("it is mended, to be put off", () -> x.mends(visit, 1, true));
        x.leaves(0);
        CHECK.due("later", x.mends(visit, 0, false), 1);
        CHECK.due("findings, mended or not", x.ofVisit(visit, 4), 3);
        CHECK.due("findings that are open", x.ofVisit(visit, 5), 1);
    }

    private static void promise13PutsOff() {
        Detentionbureau x = Harbour.withRule();
        Harbour.cargo(x, 0, 0, 0);
        int visit = Harbour.callAndVisit(x, 0, 0);
        x.finds(visit, 0, 7);
        x.finds(visit, 0, 8);
        x.finds(visit, 0, 7);
        x.finds(visit, 0, 1);
        CHECK.noState("of a weight of 8", () -> x.mends(visit, 1, true));
        CHECK.due("of a weight of 7", x.mends(visit, 0, true), 3);
        CHECK.noState("it is put off", () -> x.mends(visit, 0, true));
        CHECK.due("put off, and mended", x.mends(visit, 0, false), 3);
        CHECK.noState("it is mended", () -> x.mends(visit, 0, true));
        CHECK.due("another one", x.mends(visit, 2, true), 2);
        x.leaves(0);
        CHECK.noState("the ship has left since", () -> x.mends(visit, 3, true));
        x.calls(0, 1);
        CHECK.noState("the ship has left since, and come again", () -> x.mends(visit, 3, true));
        CHECK.due("mended at the next port", x.mends(visit, 2, false), 2);
        CHECK.due("the other one there", x.mends(visit, 3, false), 1);
    }
}
