/** The boundary cases of promises 11 to 13, 20, 21 and 24, a test for each sentence: visits, findings, what is known. */
final class EdgesOfVisitsTest {
    private static final Check CHECK = new Check();
    private static final int MIN = Integer.MIN_VALUE, MAX = Integer.MAX_VALUE;
    private static final int INITIAL = Detentionbureau.INITIAL, DETAILED = Detentionbureau.DETAILED;
    private static final int EXPANDED = Detentionbureau.EXPANDED;

    public static void main(String[] args) {
        visitShip();
        visitAtNoPort();
        visitedSinceItCame();
        upTo60Visits();
        expandedIfHigh();
        expandedIfOldAndNotCargo();
        expandedAheadOfDetailed();
        detailedByACertificate();
        detailedByWhatWasPutOff();
        putOffAndMended();
        putOffByThisShip();
        openIsNotPutOff();
        detailedWithTheThirdFinding();
        thirdFindingOfAnother();
        findsVisit();
        findsCode();
        findsWeight();
        findsThrowsInOrder();
        findsHasLeft();
        findsAGroundToday();
        atMost12Findings();
        mendsVisitAndFinding();
        mendsMended();
        putOffOnce();
        putOffBelow8();
        putOffHasLeft();
        mendsLater();
        mendsThrowsInOrder();
        isGroundArguments();
        ofVisitArguments();
        ofVisitNumbers();
        knewArguments();
        knewAtOnce();
        knewBehind3Days();
        knewAsTheyAreByNow();
        knewSeveralVisits();
        CHECK.end();
    }

    private static Run run(String sentence) {
        return new Run(CHECK, sentence).told("rule(0, 0, 7, 0, 0)").cargo(0, 0);
    }

    private static Run finds(Run run, int visit, int count) {
        for (int i = 0; i < count; i++) {
            run.told("finds(" + visit + ", 0, 1)");
        }
        return run;
    }

    private static Run depth(Run run, int ship, int want) {
        return run.due("ofVisit(" + run.stays(ship, 0) + ", 3)", want);
    }

    private static void visitShip() {
        Run run = run("11: if there is no such ship").told("calls(0, 0)");
        run.noIndex("visit(-1)", "visit(1)", "visit(" + MIN + ")", "visit(" + MAX + ")").due("visit(0)", 0);
    }

    private static void visitAtNoPort() {
        Run run = run("11: if it is at no port").noState("visit(0)").told("calls(0, 3)").due("visit(0)", 0).told("leaves(0)");
        run.noState("visit(0)").due("ofVisit(0, 1)", 3).told("calls(0, 0)", "leaves(0)").noState("visit(0)");
    }

    private static void visitedSinceItCame() {
        Run run = run("11: if it was visited since it came").told("calls(0, 0)").pass(3).due("visit(0)", 0).noState("visit(0)");
        run.pass(500).noState("visit(0)").told("leaves(0)", "calls(0, 0)").due("visit(0)", 1).noState("visit(0)");
        run.due("ofVisit(0, 2)", 3).due("ofVisit(1, 2)", 503);
    }

    private static void upTo60Visits() {
        Run run = run("11: if there are 60 visits").told("ship(0, 100, 0, 0, 0)");
        for (int visit = 0; visit < 60; visit++) {
            run.noIndex("ofVisit(" + visit + ", 0)").told("calls(0, 1)").due("visit(0)", visit).told("leaves(0)");
        }
        run.told("calls(0, 1)", "calls(1, 1)").noState("visit(0)", "visit(1)").noIndex("visit(2)", "ofVisit(60, 0)");
        run.due("ofVisit(59, 0)", 0).no("leaves(0)").yes("leaves(1)").due("missed(1)", 1);
    }

    private static void expandedIfHigh() {
        Run run = run("Visits: EXPANDED, if the ship is HIGH").told("ship(-5000, 100, 0, 0, 0)").certify(1);
        run.told("changes(1, 0, 1)", "suspend(1, true)").detention(1, 0);
        run.detention(1, 0);
        depth(run.due("ofShip(1, 0)", 4), 1, INITIAL);
        finds(run, run.comes(1, 0), 6).told("leaves(1)").due("ofShip(1, 0)", 5);
        depth(run, 1, EXPANDED);
        depth(run.told("suspend(1, false)"), 1, INITIAL);
    }

    private static void expandedIfOldAndNotCargo() {
        Run run = run("Visits: old and not CARGO");
        for (int kind = 0; kind < 3; kind++) {
            depth(run.told("ship(-4380, 100, " + kind + ", " + (kind + 1) + ", 0)").certify(kind + 1), kind + 1, INITIAL);
        }
        depth(run.pass(1), 1, INITIAL);
        depth(run, 2, EXPANDED);
        depth(run, 3, EXPANDED);
        run.due("ofVisit(1, 3)", INITIAL).due("ofVisit(2, 3)", INITIAL);
    }

    private static void expandedAheadOfDetailed() {
        Run run = run("Visits: otherwise DETAILED").told("ship(-4381, 100, 1, 1, 0)", "ship(-4380, 100, 1, 1, 0)", "ship(-4381, 100, 0, 1, 0)");
        depth(run, 1, EXPANDED);
        depth(run, 2, DETAILED);
        depth(run, 3, DETAILED);
        depth(run, 0, INITIAL);
    }

    private static void detailedByACertificate() {
        for (int family = 0; family < 5; family++) {
            Run run = run("Visits: a certificate that has lapsed, of the family " + family).told("issue(0, " + family + ", 4)").pass(4);
            depth(run, 0, INITIAL);
            depth(run.pass(1), 0, DETAILED);
            depth(run.told("issue(0, " + family + ", 4)"), 0, INITIAL);
        }
        Run run = run("Visits: a certificate that lacks").told("ship(0, 100, 0, 1, 0)", "issue(1, 0, 9)", "issue(1, 1, 9)", "issue(1, 2, 9)");
        depth(run.told("issue(1, 3, 9)"), 1, DETAILED);
        depth(run.told("issue(1, 4, 9)"), 1, INITIAL);
        depth(run.told("suspend(0, true)"), 1, DETAILED);
        depth(run.told("suspend(0, false)"), 1, INITIAL);
    }

    private static void detailedByWhatWasPutOff() {
        Run run = run("Visits: a finding that was put off, and is not mended");
        int visit = run.comes(0, 0);
        finds(run, visit, 1).told("mends(" + visit + ", 0, true)").due("ofVisit(" + visit + ", 3)", INITIAL).told("leaves(0)");
        depth(run, 0, DETAILED);
        depth(run, 0, DETAILED);
        depth(run.pass(1200).certify(0), 0, DETAILED);
        depth(run.told("mends(" + visit + ", 0, false)"), 0, INITIAL);
    }

    private static void putOffAndMended() {
        Run run = run("Visits: put off, and mended ahead of the next visit");
        int visit = run.comes(0, 0);
        finds(run, visit, 2).told("mends(0, 0, true)", "mends(0, 1, true)", "leaves(0)", "mends(0, 0, false)");
        depth(run, 0, DETAILED);
        run.told("calls(0, 1)", "mends(0, 1, false)").due("visit(0)", 2).due("ofVisit(2, 3)", INITIAL);
        run = run("Visits: put off, and mended by the same stay").told("calls(0, 0)", "visit(0)", "finds(0, 0, 7)");
        depth(run.told("mends(0, 0, true)", "mends(0, 0, false)", "leaves(0)"), 0, INITIAL);
    }

    private static void putOffByThisShip() {
        Run run = run("Visits: a finding of this ship").cargo(0, 0).told("calls(1, 0)", "visit(1)", "finds(0, 0, 1)", "mends(0, 0, true)");
        depth(run.told("leaves(1)"), 0, INITIAL);
        depth(run, 1, DETAILED);
    }

    private static void openIsNotPutOff() {
        Run run = run("Visits: a finding that is open, but was not put off").told("calls(0, 0)", "visit(0)", "finds(0, 0, 8)");
        depth(run.noState("mends(0, 0, true)").told("leaves(0)").noState("mends(0, 0, true)"), 0, INITIAL);
    }

    private static void detailedWithTheThirdFinding() {
        Run run = run("Visits: an INITIAL visit becomes DETAILED with its third finding").told("calls(0, 0)", "visit(0)");
        finds(run, 0, 2).told("mends(0, 0, false)", "mends(0, 1, true)").due("ofVisit(0, 3)", INITIAL);
        run.noState("finds(0, 1, 1)").noArgument("finds(0, 0, 11)").due("ofVisit(0, 3)", INITIAL);
        finds(run, 0, 1).due("ofVisit(0, 3)", DETAILED);
        finds(run, 0, 1).due("ofVisit(0, 3)", DETAILED);
    }

    private static void thirdFindingOfAnother() {
        Run run = run("Visits: an INITIAL one alone becomes DETAILED").told("ship(-4381, 100, 2, 1, 0)", "calls(1, 0)", "visit(1)");
        finds(run, 0, 3).due("ofVisit(0, 3)", EXPANDED).told("calls(0, 0)", "visit(0)");
        finds(run, 1, 2).due("ofVisit(1, 3)", INITIAL).told("leaves(0)", "calls(0, 0)", "visit(0)");
        finds(run, 2, 1).due("ofVisit(1, 3)", INITIAL).due("ofVisit(2, 3)", INITIAL);
        run.told("suspend(0, true)", "leaves(0)", "calls(0, 0)", "visit(0)").due("ofVisit(3, 3)", DETAILED);
        finds(run, 3, 3).due("ofVisit(3, 3)", DETAILED);
    }

    private static void findsVisit() {
        Run run = run("12: if there is no such visit").noIndex("finds(0, 0, 1)").told("calls(0, 0)", "visit(0)");
        run.noIndex("finds(-1, 0, 1)", "finds(1, 0, 1)", "finds(" + MIN + ", 0, 1)", "finds(" + MAX + ", 0, 1)");
        run.due("finds(0, 0, 1)", 0);
    }

    private static void findsCode() {
        Run run = run("12: code: 0 to 9").told("rule(9, 0, 7, 0, 0)", "calls(0, 0)", "visit(0)");
        run.noArgument("finds(0, -1, 1)", "finds(0, 10, 1)", "finds(0, " + MIN + ", 1)", "finds(0, " + MAX + ", 1)");
        run.due("finds(0, 0, 1)", 0).due("finds(0, 9, 1)", 1).noState("finds(0, 1, 1)", "finds(0, 8, 1)");
    }

    private static void findsWeight() {
        Run run = run("12: weight: 1 to 10").told("calls(0, 0)", "visit(0)");
        run.noArgument("finds(0, 0, 0)", "finds(0, 0, -1)", "finds(0, 0, 11)", "finds(0, 0, " + MIN + ")", "finds(0, 0, " + MAX + ")");
        run.due("finds(0, 0, 1)", 0).noState("detain(0)").due("finds(0, 0, 10)", 1).due("detain(0)", 1);
    }

    private static void findsThrowsInOrder() {
        Run run = run("12: the exception that is named first").noIndex("finds(0, 10, 0)").told("calls(0, 0)", "visit(0)");
        run.noIndex("finds(1, 10, 1)", "finds(1, 0, 0)", "finds(-1, 1, 1)").noArgument("finds(0, 1, 11)", "finds(0, 10, 1)");
        finds(run, 0, 12).noArgument("finds(0, 0, 0)", "finds(0, 10, 1)").noState("finds(0, 0, 1)");
        run.told("leaves(0)").noArgument("finds(0, 0, 11)", "finds(0, -1, 1)").noState("finds(0, 0, 1)", "finds(0, 1, 1)");
    }

    private static void findsHasLeft() {
        Run run = run("12: if the ship has left since").told("calls(0, 0)", "visit(0)").pass(400).due("finds(0, 0, 1)", 0);
        run.told("leaves(0)").noState("finds(0, 0, 1)").told("calls(0, 0)").noState("finds(0, 0, 1)").told("visit(0)");
        run.noState("finds(0, 0, 1)").due("finds(1, 0, 1)", 0).due("ofVisit(0, 4)", 1);
    }

    private static void findsAGroundToday() {
        Run run = run("12: the code is no ground for the ship today").told("rule(3, 1001, 7, 0, 0)", "rule(4, 1000, 6, 0, 0)");
        run.told("rule(5, 1000, 1, 6, 0)", "calls(0, 0)").pass(4).told("visit(0)").noState("finds(0, 3, 1)", "finds(0, 4, 1)");
        run.pass(1).noState("finds(0, 5, 1)").pass(1).due("finds(0, 5, 1)", 0).noState("finds(0, 6, 1)");
        run.told("rule(6, 0, 1, 0, 0)").due("finds(0, 6, 1)", 1).told("rule(7, 0, 1, 7, 2)").pass(2).noState("finds(0, 7, 1)");
        run.pass(1).due("finds(0, 7, 1)", 2);
    }

    private static void atMost12Findings() {
        Run run = run("Visits: at most 12 in a visit").told("calls(0, 0)", "visit(0)");
        for (int place = 0; place < 12; place++) {
            run.noIndex("mends(0, " + place + ", false)").due("finds(0, 0, 1)", place).due("ofVisit(0, 4)", place + 1);
        }
        run.noState("finds(0, 0, 1)").noIndex("mends(0, 12, false)").due("mends(0, 11, false)", 11);
        run.noState("finds(0, 0, 10)").due("ofVisit(0, 4)", 12).told("leaves(0)", "calls(0, 0)", "visit(0)").due("finds(1, 0, 1)", 0);
    }

    private static void mendsVisitAndFinding() {
        Run run = run("13: if there is no such visit or finding").noIndex("mends(0, 0, false)").told("calls(0, 0)", "visit(0)");
        run.noIndex("mends(0, 0, false)", "mends(0, 0, true)", "mends(0, -1, false)");
        finds(run, 0, 2).noIndex("mends(-1, 0, false)", "mends(1, 0, false)", "mends(" + MIN + ", 0, true)", "mends(" + MAX + ", 0, true)");
        run.noIndex("mends(0, -1, true)", "mends(0, 2, false)", "mends(0, " + MIN + ", false)", "mends(0, " + MAX + ", true)");
        run.due("mends(0, 0, false)", 1).due("mends(0, 1, true)", 0);
    }

    private static void mendsMended() {
        Run run = run("13: if it is mended").told("calls(0, 0)", "visit(0)");
        finds(run, 0, 2).due("mends(0, 0, false)", 1).noState("mends(0, 0, false)", "mends(0, 0, true)");
        run.told("leaves(0)").noState("mends(0, 0, false)", "mends(0, 0, true)").due("mends(0, 1, false)", 0);
        run.noState("mends(0, 1, false)", "mends(0, 1, true)");
    }

    private static void putOffOnce() {
        Run run = run("13: to be put off, if it is put off").told("calls(0, 0)", "visit(0)");
        finds(run, 0, 2).due("mends(0, 1, true)", 1).noState("mends(0, 1, true)").pass(1).noState("mends(0, 1, true)");
        run.due("mends(0, 1, false)", 1).noState("mends(0, 1, true)", "mends(0, 1, false)").due("mends(0, 0, true)", 0);
    }

    private static void putOffBelow8() {
        Run run = run("13: to be put off, of a weight of 8 or more").told("calls(0, 0)", "visit(0)");
        for (int weight = 1; weight <= 10; weight++) {
            run.told("finds(0, 0, " + weight + ")");
        }
        run.noState("mends(0, 7, true)", "mends(0, 8, true)", "mends(0, 9, true)");
        for (int weight = 7; weight >= 1; weight--) {
            run.due("mends(0, " + (weight - 1) + ", true)", weight + 2);
        }
        run.due("mends(0, 7, false)", 2).due("mends(0, 9, false)", 1).noState("mends(0, 8, true)").due("mends(0, 8, false)", 0);
    }

    private static void putOffHasLeft() {
        Run run = run("13: to be put off, if the ship has left since").told("calls(0, 0)", "visit(0)");
        finds(run, 0, 3).pass(500).due("mends(0, 0, true)", 2).told("leaves(0)").noState("mends(0, 1, true)").told("calls(0, 0)");
        run.noState("mends(0, 1, true)").told("visit(0)").noState("mends(0, 1, true)").due("mends(0, 1, false)", 1);
    }

    private static void mendsLater() {
        Run run = run("13: here or later").told("calls(0, 0)", "visit(0)");
        finds(run, 0, 3).told("mends(0, 0, true)", "leaves(0)").due("mends(0, 0, false)", 2).pass(500).due("mends(0, 2, false)", 1);
        run.told("calls(0, 3)").due("mends(0, 1, false)", 0).noState("mends(0, 0, false)");
    }

    private static void mendsThrowsInOrder() {
        Run run = run("13: the exception that is named first").told("calls(0, 0)", "visit(0)", "finds(0, 0, 8)", "mends(0, 0, false)");
        run.noIndex("mends(0, 1, false)", "mends(0, 1, true)", "mends(1, 0, true)").noState("mends(0, 0, true)");
        run.told("leaves(0)").noIndex("mends(0, 1, true)", "mends(0, -1, true)", "mends(-1, 0, true)");
    }

    private static void isGroundArguments() {
        Run run = run("20: a ship, code: 0 to 9").told("rule(9, 0, 7, 0, 0)");
        run.noIndex("isGround(-1, 0)", "isGround(1, 0)", "isGround(" + MIN + ", 0)", "isGround(" + MAX + ", 0)");
        run.noArgument("isGround(0, -1)", "isGround(0, 10)", "isGround(0, " + MIN + ")", "isGround(0, " + MAX + ")");
        run.noIndex("isGround(1, 10)", "isGround(-1, -1)").yes("isGround(0, 0)").yes("isGround(0, 9)").no("isGround(0, 1)");
    }

    private static void ofVisitArguments() {
        Run run = run("21: a visit, and 0 to 6").noIndex("ofVisit(0, 0)", "ofVisit(0, 7)").told("calls(0, 0)", "visit(0)");
        run.noIndex("ofVisit(-1, 0)", "ofVisit(1, 0)", "ofVisit(" + MIN + ", 0)", "ofVisit(" + MAX + ", 0)", "ofVisit(1, 7)");
        run.noArgument("ofVisit(0, -1)", "ofVisit(0, 7)", "ofVisit(0, " + MIN + ")", "ofVisit(0, " + MAX + ")");
        run.due("ofVisit(0, 0)", 0).due("ofVisit(0, 6)", 0);
    }

    private static void ofVisitNumbers() {
        Run run = run("21: each of its numbers").cargo(0, 0).pass(4).told("calls(1, 3)").pass(2).told("visit(1)");
        int[] bare = {1, 3, 6, INITIAL, 0, 0, 0};
        for (int what = 0; what < bare.length; what++) {
            run.due("ofVisit(0, " + what + ")", bare[what]);
        }
        run.told("finds(0, 0, 8)", "finds(0, 0, 7)", "finds(0, 0, 6)", "finds(0, 0, 5)", "detain(0)", "mends(0, 0, false)");
        run.told("mends(0, 1, true)").pass(1);
        int[] held = {1, 3, 6, DETAILED, 4, 2, 1};
        for (int what = 0; what < held.length; what++) {
            run.due("ofVisit(0, " + what + ")", held[what]);
        }
        run.told("mends(0, 1, false)").due("ofVisit(0, 5)", 2).won(0).due("ofVisit(0, 6)", 0).due("ofVisit(0, 4)", 4);
    }

    private static void knewArguments() {
        Run run = run("24: a ship, port: 0 to 3, day: 0 to today").noArgument("knew(0, 0, 1)").due("knew(0, 0, 0)", 0).pass(5);
        run.noIndex("knew(-1, 0, 0)", "knew(1, 0, 0)", "knew(" + MIN + ", 0, 0)", "knew(" + MAX + ", 0, 0)");
        run.noIndex("knew(0, -1, 0)", "knew(0, 4, 0)", "knew(0, " + MIN + ", 0)", "knew(0, " + MAX + ", 0)");
        run.noArgument("knew(0, 0, -1)", "knew(0, 0, 6)", "knew(0, 0, " + MIN + ")", "knew(0, 0, " + MAX + ")");
        run.noIndex("knew(1, 0, 6)", "knew(0, 4, -1)").due("knew(0, 0, 0)", 0).due("knew(0, 3, 5)", 0);
    }

    private static void knewAtOnce() {
        Run run = run("Known: at once, if it was there").pass(4).told("calls(0, 2)", "visit(0)", "finds(0, 0, 1)");
        run.due("knew(0, 2, 4)", 1).due("knew(0, 2, 3)", 0).due("knew(0, 2, 0)", 0).due("knew(0, 0, 4)", 0).due("knew(0, 1, 4)", 0);
        run.due("knew(0, 3, 4)", 0);
    }

    private static void knewBehind3Days() {
        Run run = run("Known: the others from 3 days behind it on").pass(4).told("calls(0, 2)", "visit(0)", "finds(0, 0, 1)").pass(4);
        for (int port = 0; port < 4; port++) {
            int from = port == 2 ? 4 : 7;
            for (int day = 3; day <= 8; day++) {
                run.due("knew(0, " + port + ", " + day + ")", day >= from ? 1 : 0);
            }
        }
        run = run("Known: of a visit on the day 0").told("calls(0, 2)", "visit(0)", "finds(0, 0, 1)").due("knew(0, 2, 0)", 1).pass(3);
        run.due("knew(0, 1, 2)", 0).due("knew(0, 1, 3)", 1).due("knew(0, 2, 0)", 1);
    }

    private static void knewAsTheyAreByNow() {
        Run run = run("Known: as they are by now, mended or not").told("calls(0, 0)", "visit(0)").due("knew(0, 0, 0)", 0);
        run.pass(9).told("finds(0, 0, 1)", "finds(0, 0, 1)", "finds(0, 0, 1)").due("knew(0, 0, 0)", 3).due("knew(0, 1, 3)", 3);
        run.told("mends(0, 0, false)", "mends(0, 1, true)").due("knew(0, 0, 0)", 3).due("knew(0, 1, 2)", 0).due("knew(0, 1, 9)", 3);
    }

    private static void knewSeveralVisits() {
        Run run = run("Known: of visits that it knew of").cargo(0, 0).told("calls(0, 0)", "visit(0)", "calls(1, 1)", "visit(1)");
        finds(run, 0, 2).told("leaves(0)").pass(2).told("calls(0, 1)", "visit(0)");
        finds(run, 2, 3).told("finds(1, 0, 1)").due("knew(0, 0, 2)", 2).due("knew(0, 1, 2)", 3).due("knew(1, 1, 2)", 1);
        run.due("knew(0, 3, 2)", 0).pass(1).due("knew(0, 1, 3)", 5).due("knew(0, 0, 3)", 2).due("knew(0, 3, 3)", 2).pass(2);
        run.due("knew(0, 0, 4)", 2).due("knew(0, 0, 5)", 5).due("knew(0, 3, 5)", 5).due("knew(1, 3, 5)", 1).due("knew(1, 0, 2)", 0);
    }
}
