/** Promises 14 to 17. */
final class DetentionsTest {
    private static final Check CHECK = new Check();

    public static void main(String[] args) {
        promise14Wrong();
        promise14Weights();
        promise14Certificates();
        promise14Counts();
        promise14LongAgo();
        promise15Wrong();
        promise15Fee();
        promise15Bans();
        promise15BanOnRelease();
        promise15BanOfLatest();
        promise15BanAndAppeal();
        promise16Appeal();
        promise17Vote();
        promise17Counts();
        CHECK.end();
    }

    private static Detentionbureau withShip() {
        Detentionbureau x = Harbour.withRule();
        Harbour.cargo(x, 0, 0, 0);
        return x;
    }

    private static void promise14Wrong() {
        Detentionbureau x = withShip();
        CHECK.noIndex("visit -1", () -> x.detain(-1));
        CHECK.noIndex("visit 0 of none", () -> x.detain(0));
        int visit = Harbour.callAndVisit(x, 0, 0);
        CHECK.noIndex("visit 1", () -> x.detain(1));
        CHECK.noState("nothing found", () -> x.detain(visit));
        x.finds(visit, 0, 10);
        x.leaves(0);
        CHECK.noState("it has left since", () -> x.detain(visit));
        x.calls(0, 0);
        CHECK.noState("it has left since, and come again", () -> x.detain(visit));
        int second = x.visit(0);
        x.finds(second, 0, 10);
        CHECK.noState("by the visit ahead of that", () -> x.detain(visit));
        CHECK.due("DETAINED, not yet", x.ofShip(0, 4), 0);
        CHECK.due("by the one of now", x.detain(second), 1);
        CHECK.due("DETAINED", x.ofShip(0, 4), 1);
        CHECK.noState("it was DETAINED by it", () -> x.detain(second));
        Harbour.mendAndRelease(x, 0, second);
        x.finds(second, 0, 10);
        CHECK.noState("it was DETAINED by it, and released", () -> x.detain(second));
        CHECK.due("DETAINED no more", x.ofShip(0, 4), 0);
    }

    private static void promise14Weights() {
        Detentionbureau x = withShip();
        int visit = Harbour.callAndVisit(x, 0, 0);
        x.finds(visit, 0, 5);
        x.finds(visit, 0, 4);
        CHECK.noState("9 together", () -> x.detain(visit));
        x.finds(visit, 0, 5);
        x.mends(visit, 0, true);
        CHECK.noState("14, 5 of them put off", () -> x.detain(visit));
        x.finds(visit, 0, 5);
        x.mends(visit, 2, false);
        CHECK.noState("19, 5 put off, 5 mended", () -> x.detain(visit));
        x.finds(visit, 0, 1);
        CHECK.due("10 together", x.detain(visit), 1);
    }

    private static void promise14Certificates() {
        Detentionbureau x = withShip();
        int visit = Harbour.callAndVisit(x, 0, 0);
        CHECK.noState("none has lapsed", () -> x.detain(visit));
        x.suspend(0, true);
        CHECK.due("one has lapsed", x.detain(visit), 1);
        CHECK.noState("release, as one has lapsed", () -> x.release(0));
        x.suspend(0, false);
        CHECK.due("release", x.release(0), 0);
        int bare = x.ship(0, 1000, 0, 0, 0);
        int second = Harbour.callAndVisit(x, bare, 0);
        CHECK.due("one lacks", x.detain(second), 1);
        CHECK.noState("release, as one lacks", () -> x.release(bare));
        Harbour.certify(x, bare);
        CHECK.due("release with all", x.release(bare), 0);
    }

    private static void promise14Counts() {
        Detentionbureau x = withShip();
        Harbour.cargo(x, 0, 0, 0);
        Harbour.detention(x, 1, 0);
        int first = Harbour.detention(x, 0, 0);
        Harbour.pass(x, 1);
        Harbour.certify(x, 0);
        Harbour.detention(x, 0, 0);
        Harbour.pass(x, 1094);
        Harbour.certify(x, 0);
        int third = Harbour.callAndVisit(x, 0, 0);
        x.finds(third, 0, 10);
        CHECK.due("1094 days ago counts, 1095 does not", x.detain(third), 2);
        CHECK.due("it counts for its visit still", x.ofVisit(first, 6), 1);
        Harbour.mendAndRelease(x, 0, third);
        x.leaves(0);
        int fourth = Harbour.callAndVisit(x, 0, 0);
        x.finds(fourth, 0, 10);
        CHECK.due("all of the latest", x.detain(fourth), 3);
    }

    private static void promise14LongAgo() {
        Detentionbureau x = withShip();
        int visit = Harbour.callAndVisit(x, 0, 0);
        x.finds(visit, 0, 10);
        Harbour.pass(x, 1095);
        CHECK.due("its visit is not of the latest", x.detain(visit), 0);
        CHECK.due("no point by it", x.ofShip(0, 0), 0);
        CHECK.due("it counts for the visit", x.ofVisit(visit, 6), 1);
    }

    private static void promise15Wrong() {
        Detentionbureau x = withShip();
        CHECK.noIndex("ship -1", () -> x.release(-1));
        CHECK.noIndex("ship 1", () -> x.release(1));
        CHECK.noState("it is not DETAINED", () -> x.release(0));
        int visit = Harbour.callAndVisit(x, 0, 0);
        x.finds(visit, 0, 8);
        x.finds(visit, 0, 7);
        CHECK.noState("it is not DETAINED yet", () -> x.release(0));
        x.detain(visit);
        CHECK.noState("none is mended", () -> x.release(0));
        x.mends(visit, 0, false);
        CHECK.noState("one is not mended", () -> x.release(0));
        x.mends(visit, 1, true);
        x.finds(visit, 0, 1);
        CHECK.noState("another was found", () -> x.release(0));
        x.mends(visit, 2, false);
        CHECK.due("all are mended or put off", x.release(0), 0);
        CHECK.noState("it is released", () -> x.release(0));
        CHECK.due("it leaves", x.leaves(0), false);
    }

    private static void promise15Fee() {
        Detentionbureau x = withShip();
        int visit = Harbour.callAndVisit(x, 0, 0);
        x.finds(visit, 0, 10);
        x.pass(2);
        x.detain(visit);
        x.mends(visit, 0, false);
        x.pass(3);
        CHECK.due("no fee ahead of the release", x.ofShip(0, 6), 0);
        CHECK.due("from the day of the detention on", x.release(0), 300);
        x.pass(3);
        CHECK.due("the fee", x.ofShip(0, 6), 300);
        x.leaves(0);
        int second = Harbour.detained(x, 0, 0);
        x.pass(4);
        x.mends(second, 0, false);
        CHECK.due("the second one", x.release(0), 400);
        CHECK.due("both together", x.ofShip(0, 6), 700);
    }

    private static void threeDetentions(Detentionbureau x) {
        Harbour.certify(x, 0);
        for (int i = 0; i < 3; i++) {
            CHECK.due("not banned by " + i, x.ofShip(0, 5), 0);
            Harbour.detention(x, 0, 0);
        }
        CHECK.due("banned by three", x.ofShip(0, 5), 1);
    }

    private static void banned(Detentionbureau x, int days) {
        CHECK.noState("on the day of the release", () -> x.calls(0, 0));
        CHECK.noIndex("no such port, though banned", () -> x.calls(0, 4));
        Harbour.pass(x, days);
        CHECK.due("banned " + days + " days behind it", x.ofShip(0, 5), 1);
        CHECK.noState("calls " + days + " days behind it", () -> x.calls(0, 0));
    }

    private static void promise15Bans() {
        Detentionbureau x = withShip();
        x.pass(5);
        threeDetentions(x);
        banned(x, 90);
        x.pass(1);
        CHECK.due("not banned 91 days behind it", x.ofShip(0, 5), 0);
        threeDetentions(x);
        banned(x, 360);
        x.pass(1);
        CHECK.due("not banned 361 days behind it", x.ofShip(0, 5), 0);
        threeDetentions(x);
        banned(x, 2000);
        Harbour.pass(x, 9000 - x.pass(1));
        CHECK.due("for good", x.ofShip(0, 5), 1);
        CHECK.noState("calls on the last day", () -> x.calls(0, 0));
    }

    private static void promise15BanOnRelease() {
        Detentionbureau x = withShip();
        Harbour.detention(x, 0, 0);
        Harbour.detention(x, 0, 0);
        int third = Harbour.detained(x, 0, 0);
        CHECK.due("not banned as it is detained", x.ofShip(0, 5), 0);
        x.pass(7);
        Harbour.mendAndRelease(x, 0, third);
        CHECK.due("banned as it is released", x.ofShip(0, 5), 1);
        x.pass(1);
        x.leaves(0);
        x.pass(89);
        CHECK.due("90 days behind the release", x.ofShip(0, 5), 1);
        x.pass(1);
        CHECK.due("91 days behind the release", x.ofShip(0, 5), 0);
        Harbour.detention(x, 0, 0);
        CHECK.due("those that led to a ban do not lead to another", x.ofShip(0, 5), 0);
    }

    private static void promise15BanOfLatest() {
        Detentionbureau x = withShip();
        Harbour.detention(x, 0, 0);
        x.pass(1);
        Harbour.detention(x, 0, 0);
        Harbour.pass(x, 1094);
        Harbour.certify(x, 0);
        Harbour.detention(x, 0, 0);
        CHECK.due("the first is not of the latest", x.ofShip(0, 5), 0);
        int fourth = Harbour.callAndVisit(x, 0, 0);
        x.finds(fourth, 0, 10);
        x.pass(1);
        x.detain(fourth);
        Harbour.mendAndRelease(x, 0, fourth);
        CHECK.due("nor the second, as it is detained", x.ofShip(0, 5), 0);
        x.leaves(0);
        Harbour.detention(x, 0, 0);
        CHECK.due("the third of the latest", x.ofShip(0, 5), 1);
    }

    private static void overturn(Detentionbureau x, int visit) {
        x.appeal(visit);
        x.vote(visit, true);
        x.vote(visit, true);
    }

    private static void promise15BanAndAppeal() {
        Detentionbureau x = withShip();
        int first = Harbour.detention(x, 0, 0);
        overturn(x, first);
        Harbour.detention(x, 0, 0);
        Harbour.detention(x, 0, 0);
        CHECK.due("two that count", x.ofShip(0, 5), 0);
        int fourth = Harbour.detained(x, 0, 0);
        overturn(x, fourth);
        CHECK.due("overturned, it is DETAINED still", x.ofShip(0, 4), 1);
        Harbour.mendAndRelease(x, 0, fourth);
        CHECK.due("it was looked at as it was detained", x.ofShip(0, 5), 1);
        x.leaves(0);
        x.pass(20);
        CHECK.noState("bans stay", () -> x.calls(0, 0));
    }

    private static void promise16Appeal() {
        Detentionbureau x = withShip();
        CHECK.noIndex("visit -1", () -> x.appeal(-1));
        CHECK.noIndex("visit 0 of none", () -> x.appeal(0));
        int plain = Harbour.stay(x, 0, 0);
        CHECK.noState("there was no detention", () -> x.appeal(plain));
        int visit = Harbour.callAndVisit(x, 0, 0);
        x.finds(visit, 0, 10);
        x.pass(20);
        x.detain(visit);
        Harbour.mendAndRelease(x, 0, visit);
        x.leaves(0);
        int second = Harbour.detention(x, 0, 0);
        x.pass(30);
        x.appeal(visit);
        CHECK.noState("it was appealed", () -> x.appeal(visit));
        CHECK.due("30 days behind the detention", x.vote(visit, false), 0);
        x.pass(1);
        CHECK.noState("31 days behind it", () -> x.appeal(second));
        CHECK.noState("so no vote", () -> x.vote(second, true));
        x.vote(visit, false);
        CHECK.noState("once, though decided", () -> x.appeal(visit));
    }

    private static void promise17Vote() {
        Detentionbureau x = withShip();
        CHECK.noIndex("visit -1", () -> x.vote(-1, true));
        CHECK.noIndex("visit 0 of none", () -> x.vote(0, true));
        boolean[][] votes = {{true, true}, {true, false, true}, {false, true, true},
            {false, false}, {false, true, false}, {true, false, false}};
        for (boolean[] three : votes) {
            Harbour.cargo(x, 0, 0, 0);
        }
        for (int i = 0; i < votes.length; i++) {
            int visit = Harbour.detention(x, i, 0);
            CHECK.noState("not appealed", () -> x.vote(visit, true));
            x.appeal(visit);
            x.pass(40);
            int last = votes[i].length - 1;
            for (int place = 0; place < last; place++) {
                CHECK.due("not decided", x.vote(visit, votes[i][place]), 0);
                CHECK.due("it counts", x.ofVisit(visit, 6), 1);
            }
            CHECK.due("decided", x.vote(visit, votes[i][last]), i < 3 ? 1 : 2);
            CHECK.due("whether it counts", x.ofVisit(visit, 6), i < 3 ? 0 : 1);
            CHECK.noState("that is decided, for", () -> x.vote(visit, true));
            CHECK.noState("that is decided, against", () -> x.vote(visit, false));
        }
    }

    private static void promise17Counts() {
        Detentionbureau x = withShip();
        int first = Harbour.detention(x, 0, 0);
        CHECK.due("a point", x.ofShip(0, 0), 1);
        overturn(x, first);
        CHECK.due("no point", x.ofShip(0, 0), 0);
        int second = Harbour.callAndVisit(x, 0, 0);
        x.finds(second, 0, 10);
        CHECK.due("the first counts no more", x.detain(second), 1);
        overturn(x, second);
        CHECK.noState("it was DETAINED by it", () -> x.detain(second));
        CHECK.due("DETAINED still", x.ofShip(0, 4), 1);
    }
}
