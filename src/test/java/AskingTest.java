/** Promises 18 to 24. */
final class AskingTest {
    private static final Check CHECK = new Check();

    public static void main(String[] args) {
        promise18Wrong();
        promise18Points();
        promise18PointsOfFlag();
        promise18PointsOfVisits();
        promise18Rest();
        promise19PointsAnew();
        promise19Appeals();
        promise19LongFile();
        promise20IsGround();
        promise21OfVisit();
        promise22ListSmall();
        promise22ListBlack();
        promise22ListWhite();
        promise22ListAll();
        promise22ListFlagThen();
        promise22ListAndVisit();
        promise23Missed();
        promise24Knew();
        promise24KnewWrong();
        CHECK.end();
    }

    /** The points, which are the same by the file alone. */
    private static void points(Detentionbureau x, String when, int ship, int want) {
        CHECK.due("points: " + when, x.ofShip(ship, 0), want);
        CHECK.due("points anew: " + when, x.pointsAnew(ship), want);
    }

    private static void promise18Wrong() {
        Detentionbureau x = new Detentionbureau();
        CHECK.noIndex("ship 0 of none", () -> x.ofShip(0, 0));
        x.ship(0, 1000, 0, 0, 0);
        CHECK.noIndex("ship -1", () -> x.ofShip(-1, 0));
        CHECK.noIndex("ship 1, of no such number", () -> x.ofShip(1, 8));
        CHECK.noArgument("what -1", () -> x.ofShip(0, -1));
        CHECK.noArgument("what 8", () -> x.ofShip(0, 8));
    }

    private static void promise18Points() {
        Detentionbureau x = new Detentionbureau();
        for (int kind = 0; kind < 3; kind++) {
            x.ship(-4380, 1000, kind, 0, kind);
            points(x, "by the kind " + kind, kind, kind);
        }
        x.pass(1);
        for (int kind = 0; kind < 3; kind++) {
            points(x, "old, by the kind " + kind, kind, kind + 1);
        }
        x.suspend(1, true);
        points(x, "its body is suspended", 1, 3);
        points(x, "another body is", 2, 3);
        x.changes(2, 0, 1);
        points(x, "it is of that body now", 2, 4);
        x.suspend(1, false);
        points(x, "it is not suspended now", 2, 3);
    }

    private static void promise18PointsOfFlag() {
        Detentionbureau x = Harbour.withRule();
        Harbour.cargo(x, 0, 1, 0);
        Harbour.cargo(x, 0, 0, 0);
        for (int visit = 0; visit < 5; visit++) {
            Harbour.stay(x, 0, 0);
        }
        points(x, "UNLISTED", 0, 0);
        CHECK.due("STANDARD, as it is not WHITE", x.ofShip(0, 1), Detentionbureau.STANDARD);
        Harbour.stay(x, 0, 0);
        points(x, "GREY", 0, 1);
        points(x, "another flag", 1, 0);
        x.changes(1, 1, 0);
        points(x, "its flag now", 1, 1);
        Detentionbureau y = Harbour.withRule();
        for (int ship = 0; ship < 3; ship++) {
            Harbour.cargo(y, 0, 1, 0);
        }
        Harbour.detention(y, 0, 0);
        Harbour.detention(y, 1, 0);
        for (int visit = 0; visit < 4; visit++) {
            Harbour.stay(y, 1, 0);
        }
        CHECK.due("BLACK", y.list(1), Detentionbureau.BLACK);
        points(y, "BLACK", 2, 2);
        points(y, "BLACK, with a detention", 0, 3);
    }

    private static void promise18PointsOfVisits() {
        Detentionbureau x = Harbour.withRule();
        Harbour.cargo(x, 0, 0, 0);
        Harbour.cargo(x, 0, 0, 0);
        int visit = Harbour.callAndVisit(x, 0, 0);
        for (int found = 1; found <= 5; found++) {
            x.finds(visit, 0, 1);
            points(x, "findings " + found, 0, 0);
        }
        x.finds(visit, 0, 5);
        points(x, "findings 6", 0, 1);
        points(x, "another ship", 1, 0);
        for (int place = 0; place < 5; place++) {
            x.mends(visit, place, false);
        }
        points(x, "mended or not", 0, 1);
        x.leaves(0);
        x.pass(1);
        int second = Harbour.detention(x, 0, 0);
        points(x, "a detention", 0, 2);
        Harbour.detention(x, 0, 0);
        points(x, "two", 0, 3);
        Harbour.detention(x, 0, 0);
        points(x, "2 at most", 0, 3);
        x.appeal(second);
        x.vote(second, true);
        x.vote(second, true);
        points(x, "two of three count", 0, 3);
        Harbour.pass(x, 1093);
        points(x, "1094 days ago", 0, 3);
        x.pass(1);
        points(x, "the findings are 1095 days ago", 0, 2);
        x.pass(1);
        points(x, "the detentions are 1095 days ago", 0, 0);
    }

    private static void promise18Rest() {
        Detentionbureau x = Harbour.withRule();
        Harbour.cargo(x, 0, 0, 0);
        CHECK.due("priority, never visited", x.ofShip(0, 2), 2);
        CHECK.due("at no port", x.ofShip(0, 3), Detentionbureau.NONE);
        CHECK.due("not DETAINED", x.ofShip(0, 4), 0);
        CHECK.due("not banned", x.ofShip(0, 5), 0);
        CHECK.due("no fees", x.ofShip(0, 6), 0);
        CHECK.due("none lapsed", x.ofShip(0, 7), 0);
        int visit = Harbour.detained(x, 0, 2);
        CHECK.due("priority, visited today", x.ofShip(0, 2), 0);
        CHECK.due("at the port 2", x.ofShip(0, 3), 2);
        CHECK.due("DETAINED", x.ofShip(0, 4), 1);
        x.pass(11);
        Harbour.mendAndRelease(x, 0, visit);
        CHECK.due("not DETAINED then", x.ofShip(0, 4), 0);
        CHECK.due("fees", x.ofShip(0, 6), 1100);
        x.issue(0, Detentionbureau.RADIO, 1);
        x.pass(2);
        CHECK.due("RADIO has lapsed", x.ofShip(0, 7), 4);
        x.issue(0, Detentionbureau.LINE, 1);
        x.pass(2);
        CHECK.due("LINE too", x.ofShip(0, 7), 12);
    }

    private static void promise19PointsAnew() {
        Detentionbureau x = Harbour.withRule();
        CHECK.noIndex("ship 0 of none", () -> x.pointsAnew(0));
        x.ship(-4380, 1000, 2, 0, 0);
        x.ship(0, 1000, 0, 0, 0);
        CHECK.noIndex("ship -1", () -> x.pointsAnew(-1));
        CHECK.noIndex("ship 2", () -> x.pointsAnew(2));
        points(x, "as told", 0, 2);
        points(x, "the other ship", 1, 0);
        for (int i = 0; i < 300; i++) {
            x.changes(0, i % 6, i % 4);
        }
        x.suspend(299 % 4, true);
        x.pass(1);
        points(x, "changed often", 0, 4);
    }

    private static void promise19Appeals() {
        Detentionbureau x = Harbour.withRule();
        Harbour.cargo(x, 0, 0, 0);
        int won = Harbour.detention(x, 0, 0);
        points(x, "a detention", 0, 1);
        x.appeal(won);
        x.vote(won, false);
        x.vote(won, true);
        points(x, "a vote for it", 0, 1);
        x.vote(won, true);
        points(x, "two votes for it", 0, 0);
        int lost = Harbour.detention(x, 0, 0);
        x.appeal(lost);
        x.vote(lost, true);
        x.vote(lost, false);
        x.vote(lost, false);
        points(x, "two votes against it", 0, 1);
    }

    /** As many notes as the calls of an object can make, the last one being what counts. */
    private static void promise19LongFile() {
        Detentionbureau x = new Detentionbureau();
        x.suspend(3, true);
        x.ship(0, 1000, 0, 0, 0);
        for (int i = 0; i < 508; i++) {
            x.changes(0, 0, 0);
        }
        x.changes(0, 0, 3);
        CHECK.due("by the last of 509 changes", x.pointsAnew(0), 1);
    }

    private static void promise20IsGround() {
        Detentionbureau x = new Detentionbureau();
        CHECK.noIndex("ship 0 of none", () -> x.isGround(0, 0));
        x.ship(0, 1000, 0, 0, 0);
        CHECK.noIndex("ship -1", () -> x.isGround(-1, 0));
        CHECK.noIndex("ship 1, of no code", () -> x.isGround(1, 10));
        CHECK.noArgument("code -1", () -> x.isGround(0, -1));
        CHECK.noArgument("code 10", () -> x.isGround(0, 10));
        x.rule(9, 0, 1, 0, 0);
        CHECK.due("code 9", x.isGround(0, 9), true);
        CHECK.due("code 0", x.isGround(0, 0), false);
        x.rule(0, 0, 1, 500, 3000);
        Harbour.pass(x, 3499);
        CHECK.due("a day ahead of the delay's end", x.isGround(0, 0), false);
        x.pass(1);
        CHECK.due("with the delay's end", x.isGround(0, 0), true);
    }

    private static void promise21OfVisit() {
        Detentionbureau x = Harbour.withRule();
        CHECK.noIndex("visit 0 of none", () -> x.ofVisit(0, 0));
        Harbour.cargo(x, 0, 0, 0);
        Harbour.cargo(x, 0, 0, 0);
        x.pass(3);
        int visit = Harbour.callAndVisit(x, 1, 2);
        CHECK.noIndex("visit -1", () -> x.ofVisit(-1, 0));
        CHECK.noIndex("visit 1, of no such number", () -> x.ofVisit(1, 7));
        CHECK.noArgument("what -1", () -> x.ofVisit(0, -1));
        CHECK.noArgument("what 7", () -> x.ofVisit(0, 7));
        CHECK.due("no detention", x.ofVisit(visit, 6), 0);
        x.finds(visit, 0, 8);
        x.finds(visit, 0, 4);
        x.finds(visit, 0, 5);
        x.detain(visit);
        x.mends(visit, 0, false);
        x.mends(visit, 1, true);
        x.pass(9);
        int[] want = {1, 2, 3, Detentionbureau.DETAILED, 3, 1, 1};
        for (int what = 0; what < want.length; what++) {
            CHECK.due("ofVisit(" + visit + ", " + what + ")", x.ofVisit(visit, what), want[what]);
        }
        x.mends(visit, 2, false);
        x.release(1);
        x.leaves(1);
        x.calls(1, 0);
        CHECK.due("the port of then", x.ofVisit(visit, 1), 2);
        CHECK.due("a detention that was", x.ofVisit(visit, 6), 1);
    }

    private static void promise22ListSmall() {
        Detentionbureau x = Harbour.withRule();
        CHECK.noIndex("flag -1", () -> x.list(-1));
        CHECK.noIndex("flag 6", () -> x.list(6));
        Harbour.cargo(x, 0, 5, 0);
        for (int visit = 0; visit < 5; visit++) {
            Harbour.detention(x, 0, 0);
            Harbour.pass(x, 91);
            Harbour.certify(x, 0);
        }
        CHECK.due("5 visits", x.list(5), Detentionbureau.UNLISTED);
        Harbour.stay(x, 0, 0);
        CHECK.due("6 visits, 5 detentions", x.list(5), Detentionbureau.BLACK);
        CHECK.due("another flag", x.list(4), Detentionbureau.UNLISTED);
        Harbour.pass(x, 1094 - 5 * 91);
        CHECK.due("the first was 1094 days ago", x.list(5), Detentionbureau.BLACK);
        x.pass(1);
        CHECK.due("the first was 1095 days ago", x.list(5), Detentionbureau.UNLISTED);
    }

    private static void promise22ListBlack() {
        Detentionbureau x = Harbour.withRule();
        Harbour.cargo(x, 0, 2, 0);
        Harbour.cargo(x, 0, 2, 0);
        for (int visit = 0; visit < 5; visit++) {
            Harbour.stay(x, 0, 0);
        }
        int first = Harbour.detention(x, 0, 0);
        CHECK.due("6 visits, 1 detention", x.list(2), Detentionbureau.GREY);
        Harbour.detention(x, 1, 0);
        CHECK.due("7 visits, 2 detentions: 101 x 101 is not above 1762 x 7", x.list(2), Detentionbureau.GREY);
        Harbour.detention(x, 0, 0);
        CHECK.due("8 visits, 3 detentions", x.list(2), Detentionbureau.BLACK);
        x.appeal(first);
        x.vote(first, true);
        CHECK.due("not decided", x.list(2), Detentionbureau.BLACK);
        x.vote(first, true);
        CHECK.due("8 visits, 2 that count", x.list(2), Detentionbureau.GREY);
        Detentionbureau y = Harbour.withRule();
        Harbour.cargo(y, 0, 2, 0);
        Harbour.detention(y, 0, 0);
        Harbour.detention(y, 0, 0);
        for (int visit = 0; visit < 4; visit++) {
            CHECK.due("ahead of 6", y.list(2), Detentionbureau.UNLISTED);
            Harbour.stay(y, 0, 0);
        }
        CHECK.due("6 visits, 2 detentions: 108 x 108 is above 1762 x 6", y.list(2), Detentionbureau.BLACK);
    }

    private static void promise22ListWhite() {
        Detentionbureau x = Harbour.withRule();
        Harbour.cargo(x, 0, 2, 0);
        for (int visit = 0; visit < 6; visit++) {
            Harbour.stay(x, 0, 0);
        }
        CHECK.due("6 visits", x.list(2), Detentionbureau.GREY);
        for (int visit = 6; visit < 49; visit++) {
            Harbour.stay(x, 0, 0);
        }
        CHECK.due("49 visits: 293 x 293 is not above 1762 x 49", x.list(2), Detentionbureau.GREY);
        Harbour.stay(x, 0, 0);
        CHECK.due("50 visits: 300 x 300 is above 1762 x 50", x.list(2), Detentionbureau.WHITE);
        Harbour.detention(x, 0, 0);
        CHECK.due("51 visits, 1 detention", x.list(2), Detentionbureau.GREY);
        for (int visit = 51; visit < 60; visit++) {
            Harbour.stay(x, 0, 0);
        }
        CHECK.due("60 visits, 1 detention: 270 x 270 is not above 1762 x 60", x.list(2), Detentionbureau.GREY);
    }

    private static int listByWords(long n, long d) {
        long x = 100 * d - 7 * n - 50;
        long y = 7 * n - 50 - 100 * d;
        if (n < 6) {
            return Detentionbureau.UNLISTED;
        }
        if (x > 0 && x * x > 1762 * n) {
            return Detentionbureau.BLACK;
        }
        return y > 0 && y * y > 1762 * n ? Detentionbureau.WHITE : Detentionbureau.GREY;
    }

    /** Every count of visits with up to 30 detentions; no ship but the first six is banned by these. */
    private static void promise22ListAll() {
        for (int d = 0; d <= 30; d++) {
            Detentionbureau x = Harbour.withRule();
            for (int ship = 0; ship < 12; ship++) {
                Harbour.cargo(x, 0, 2, 0);
            }
            for (int i = 0; i < d; i++) {
                Harbour.detention(x, i % 12, 0);
            }
            for (int n = d; n <= 60; n++) {
                CHECK.due("list of " + n + " visits, " + d + " detentions", x.list(2), listByWords(n, d));
                if (n < 60) {
                    Harbour.stay(x, 11, 0);
                }
            }
        }
    }

    private static void promise22ListFlagThen() {
        Detentionbureau x = new Detentionbureau();
        Harbour.cargo(x, 0, 0, 0);
        for (int visit = 0; visit < 6; visit++) {
            x.calls(0, 0);
            x.changes(0, 3, 0);
            x.visit(0);
            x.changes(0, 4, 0);
            x.leaves(0);
        }
        CHECK.due("the flag that it had then", x.list(3), Detentionbureau.GREY);
        CHECK.due("the flag that it has", x.list(4), Detentionbureau.UNLISTED);
        CHECK.due("the flag that it had first", x.list(0), Detentionbureau.UNLISTED);
    }

    /** What is not said in so many words: the depth goes by the ship's risk ahead of the visit itself. */
    private static void promise22ListAndVisit() {
        Detentionbureau x = Harbour.withRule();
        for (int ship = 0; ship < 3; ship++) {
            Harbour.cargo(x, 0, 1, 0);
        }
        Harbour.detention(x, 0, 0);
        Harbour.detention(x, 0, 0);
        Harbour.detention(x, 1, 0);
        Harbour.detention(x, 2, 0);
        Harbour.detention(x, 2, 0);
        x.changes(0, 1, 1);
        x.suspend(1, true);
        CHECK.due("3 points ahead of the sixth visit", x.ofShip(0, 0), 3);
        int sixth = Harbour.callAndVisit(x, 0, 0);
        CHECK.due("5 points behind it", x.ofShip(0, 0), 5);
        CHECK.due("not HIGH as it was met", x.ofVisit(sixth, 3), Detentionbureau.INITIAL);
    }

    private static void promise23Missed() {
        Detentionbureau x = new Detentionbureau();
        CHECK.noIndex("port -1", () -> x.missed(-1));
        CHECK.noIndex("port 4", () -> x.missed(4));
        Harbour.cargo(x, 0, 0, 0);
        for (int port = 0; port < 4; port++) {
            for (int i = 0; i <= port; i++) {
                x.calls(0, port);
                CHECK.due("there yet", x.missed(port), i);
                x.leaves(0);
            }
        }
        for (int port = 0; port < 4; port++) {
            CHECK.due("missed(" + port + ")", x.missed(port), port + 1);
        }
        Harbour.stay(x, 0, 0);
        CHECK.due("visited, not missed", x.missed(0), 1);
        x.calls(0, 0);
        x.leaves(0);
        CHECK.due("priority 0, not missed", x.missed(0), 1);
    }

    private static void promise24Knew() {
        Detentionbureau x = Harbour.withRule();
        Harbour.cargo(x, 0, 0, 0);
        Harbour.cargo(x, 0, 0, 0);
        x.pass(5);
        int visit = Harbour.callAndVisit(x, 0, 1);
        x.finds(visit, 0, 1);
        x.finds(visit, 0, 1);
        CHECK.due("there, ahead of it", x.knew(0, 1, 4), 0);
        CHECK.due("there, at once", x.knew(0, 1, 5), 2);
        CHECK.due("another port, at once", x.knew(0, 2, 5), 0);
        x.pass(4);
        x.finds(visit, 0, 1);
        x.mends(visit, 0, false);
        x.mends(visit, 1, true);
        CHECK.due("there, as they are by now, mended or not", x.knew(0, 1, 5), 3);
        CHECK.due("another port, 2 days behind", x.knew(0, 0, 7), 0);
        CHECK.due("another port, 3 days behind", x.knew(0, 0, 8), 3);
        x.leaves(0);
        int second = Harbour.callAndVisit(x, 0, 0);
        x.finds(second, 0, 1);
        CHECK.due("both, where the second was", x.knew(0, 0, 9), 4);
        CHECK.due("the first, where it was", x.knew(0, 1, 9), 3);
        CHECK.due("the first, elsewhere", x.knew(0, 3, 9), 3);
        x.pass(3);
        CHECK.due("both, where the first was", x.knew(0, 1, 12), 4);
        CHECK.due("both, elsewhere", x.knew(0, 3, 12), 4);
        CHECK.due("none of another ship", x.knew(1, 1, 12), 0);
        CHECK.due("none on the day 0", x.knew(0, 1, 0), 0);
    }

    private static void promise24KnewWrong() {
        Detentionbureau x = new Detentionbureau();
        CHECK.noIndex("ship 0 of none", () -> x.knew(0, 0, 0));
        x.ship(0, 1000, 0, 0, 0);
        x.pass(3);
        CHECK.noIndex("ship -1", () -> x.knew(-1, 0, 0));
        CHECK.noIndex("ship 1, on no day", () -> x.knew(1, 0, 4));
        CHECK.noIndex("port -1", () -> x.knew(0, -1, 0));
        CHECK.noIndex("port 4, on no day", () -> x.knew(0, 4, 4));
        CHECK.noArgument("day -1", () -> x.knew(0, 0, -1));
        CHECK.noArgument("day 4", () -> x.knew(0, 0, 4));
        CHECK.due("today", x.knew(0, 0, 3), 0);
    }
}
