/**
 * "A call of a method that throws an exception changes nothing": each reason for which a call is refused, in a
 * harbour in which there is something of everything that such a call could change.
 */
final class RefusedCallsTest {
    private static final Check CHECK = new Check();

    private static final int HELD = 0, VISITED = 1, CALLING = 2, BANNED = 3, UNFIT = 4, TO_BE_BANNED = 5, ELSEWHERE = 6;
    /** Of BANNED: one with a vote for and one against, one decided, one that was not appealed, and is too old for it. */
    private static final int SPLIT = 0, DECIDED = 1, TOO_OLD = 2;
    private static final int LAST_DETENTION = 5, OF_HELD = 6, OF_VISITED = 7, PLAIN = 8;
    private static final int DAYS = 405;

    public static void main(String[] args) {
        Run early = harbour("A call that throws changes nothing", 0);
        telling(early);
        certificates(early);
        callsAndVisits(early);
        findings(early);
        detentions(early);
        asking(early);
        Run late = harbour("A call that throws changes nothing, with no room for ships and rules", 8520 - DAYS);
        fillShipsAndRules(late);
        late.noState("pass(481)", "pass(500)", "ship(0, 100, 0, 0, 0)", "rule(0, 0, 7, 0, 0)");
        Run full = harbour("A call that throws changes nothing, with no room left", 9000 - DAYS);
        fillShipsAndRules(full);
        fillVisits(full);
        noRoom(full);
        detentions(full);
        findings(full);
        CHECK.end();
    }

    private static Run harbour(String sentence, int begin) {
        Run run = new Run(CHECK, sentence).pass(begin).told("rule(0, 0, 7, 0, 0)", "rule(1, 0, 7, 9000, 0)");
        for (int ship = 0; ship <= ELSEWHERE; ship++) {
            run.told("ship(" + (ship - 4380) + ", 1000, " + ship % 3 + ", " + ship % 2 + ", " + (ship == UNFIT ? 3 : 0) + ")");
            for (int family = 0; ship != CALLING && family < 5; family++) {
                run.told("issue(" + ship + ", " + family + ", " + (ship == UNFIT ? 20 : 1825) + ")");
            }
        }
        run.pass(370).told("suspend(3, true)", "endorse(0, 0)", "endorse(3, 0)", "endorse(3, 4)", "changes(3, 0, 1)");
        for (int i = 0; i < 3; i++) {
            run.detention(BANNED, i);
        }
        run.told("appeal(0)", "vote(0, true)", "vote(0, false)", "appeal(1)", "vote(1, false)", "vote(1, false)").pass(33);
        run.detention(TO_BE_BANNED, 1);
        run.detention(TO_BE_BANNED, 1);
        run.detained(TO_BE_BANNED, 1);
        run.told("finds(5, 0, 8)").comes(HELD, 2);
        run.told("finds(6, 0, 9)", "finds(6, 0, 7)", "finds(6, 0, 6)", "finds(6, 0, 5)", "detain(6)", "mends(6, 0, false)");
        run.told("mends(6, 1, true)", "appeal(6)", "vote(6, true)").pass(1).comes(VISITED, 1);
        for (int place = 0; place < 12; place++) {
            run.told("finds(7, 0, " + (place < 3 ? 8 : 1) + ")");
        }
        run.told("mends(7, 0, false)", "mends(7, 1, false)", "mends(7, 3, true)", "mends(7, 4, false)", "mends(7, 5, false)");
        run.told("mends(7, 10, true)", "mends(7, 11, false)", "mends(7, 9, true)", "mends(7, 8, true)", "mends(7, 7, true)");
        run.stays(ELSEWHERE, 0);
        return run.told("calls(2, 3)", "leaves(2)", "calls(2, 3)").pass(1).due("ofVisit(" + OF_VISITED + ", 5)", 2);
    }

    private static void telling(Run run) {
        run.noArgument("pass(0)", "pass(501)").noIndex("ship(0, 100, 0, 6, 0)", "ship(0, 100, 0, 0, 4)");
        run.noArgument("ship(406, 100, 0, 0, 0)", "ship(-10001, 100, 0, 0, 0)", "ship(0, 99, 0, 0, 0)", "ship(0, 100, 3, 0, 0)");
        run.noIndex("changes(7, 1, 1)", "changes(0, 6, 1)", "changes(0, 1, 4)", "suspend(4, true)", "suspend(-1, false)");
        run.noArgument("rule(10, 0, 7, 0, 0)", "rule(5, 200001, 7, 0, 0)", "rule(5, 0, 8, 0, 0)", "rule(5, 0, 7, 9001, 0)");
        run.noArgument("rule(5, 0, 7, 0, 3001)", "rule(5, 0, 0, 0, 0)", "rule(5, -1, 7, 0, 0)");
    }

    private static void certificates(Run run) {
        run.noIndex("issue(7, 0, 100)").noArgument("issue(0, 5, 100)", "issue(0, 0, 0)", "issue(0, 0, 1826)");
        run.noState("issue(" + UNFIT + ", 0, 100)", "issue(" + CALLING + ", 1, 100)", "issue(" + CALLING + ", 3, 100)");
        run.noIndex("endorse(7, 0)").noArgument("endorse(0, 5)", "endorse(0, -1)");
        run.noState("endorse(" + HELD + ", 0)", "endorse(" + CALLING + ", 0)", "endorse(" + UNFIT + ", 0)", "endorse(3, 4)");
    }

    private static void callsAndVisits(Run run) {
        run.noIndex("calls(7, 0)", "calls(" + UNFIT + ", 4)").noState("calls(" + HELD + ", 0)", "calls(" + BANNED + ", 0)");
        run.noIndex("leaves(7)").noState("leaves(" + UNFIT + ")", "leaves(" + HELD + ")", "leaves(" + TO_BE_BANNED + ")");
        run.noIndex("visit(7)").noState("visit(" + UNFIT + ")", "visit(" + VISITED + ")", "visit(" + HELD + ")");
    }

    private static void findings(Run run) {
        run.noIndex("finds(60, 0, 1)", "finds(-1, 0, 1)").noArgument("finds(6, 10, 1)", "finds(6, 0, 0)", "finds(6, 0, 11)");
        run.noState("finds(" + SPLIT + ", 0, 1)", "finds(" + OF_HELD + ", 2, 1)", "finds(" + OF_VISITED + ", 0, 1)");
        run.noIndex("mends(60, 0, false)", "mends(" + OF_HELD + ", 4, false)", "mends(" + PLAIN + ", 0, true)");
        run.noState("mends(" + OF_HELD + ", 0, false)", "mends(" + OF_HELD + ", 0, true)", "mends(" + OF_HELD + ", 1, true)");
        run.noState("mends(" + OF_VISITED + ", 2, true)", "mends(" + SPLIT + ", 0, true)");
    }

    private static void detentions(Run run) {
        run.noIndex("detain(60)").noState("detain(" + TOO_OLD + ")", "detain(" + OF_HELD + ")", "detain(" + PLAIN + ")");
        run.noState("detain(" + OF_VISITED + ")").noIndex("release(12)");
        run.noState("release(" + HELD + ")", "release(" + TO_BE_BANNED + ")", "release(" + VISITED + ")", "release(" + BANNED + ")");
        run.noIndex("appeal(60)").noState("appeal(" + PLAIN + ")", "appeal(" + SPLIT + ")", "appeal(" + TOO_OLD + ")");
        run.noIndex("vote(60, true)").noState("vote(" + LAST_DETENTION + ", true)", "vote(" + DECIDED + ", true)");
        run.noState("vote(" + DECIDED + ", false)", "vote(" + PLAIN + ", false)");
    }

    private static void asking(Run run) {
        run.noIndex("ofShip(7, 0)", "ofShip(-1, 0)", "pointsAnew(7)", "isGround(7, 0)").noArgument("ofShip(0, 8)", "ofShip(0, -1)");
        run.noArgument("isGround(0, 10)", "ofVisit(0, 7)", "ofVisit(0, -1)", "knew(3, 0, 406)", "knew(3, 0, -1)");
        run.noIndex("ofVisit(9, 0)", "list(6)", "list(-1)", "missed(4)", "missed(-1)", "knew(7, 0, 0)", "knew(3, 4, 0)");
    }

    private static void fillShipsAndRules(Run run) {
        for (int ship = ELSEWHERE + 1; ship < 12; ship++) {
            run.told("ship(0, 1000, 0, 2, 2)");
        }
        for (int rule = 2; rule < 20; rule++) {
            run.told("rule(9, 200000, 1, 9000, 0)");
        }
    }

    private static void fillVisits(Run run) {
        for (int visit = PLAIN + 1; visit < 60; visit++) {
            run.stays(ELSEWHERE, 0);
        }
    }

    private static void noRoom(Run run) {
        run.noState("pass(1)", "pass(500)").noArgument("pass(0)", "pass(501)");
        run.noState("ship(9000, 100, 0, 0, 0)").noIndex("ship(0, 100, 0, 6, 0)").noArgument("ship(9001, 100, 0, 0, 0)");
        run.noState("rule(0, 0, 7, 0, 0)").noArgument("rule(10, 0, 7, 0, 0)");
        run.noState("visit(" + CALLING + ")", "visit(" + ELSEWHERE + ")").noIndex("visit(12)").noArgument("knew(3, 0, 9001)");
    }
}
