/** The boundary cases of risk, windows and priorities, a test for each sentence: promises 9, 10, 18 and 19. */
final class EdgesOfRiskTest {
    private static final Check CHECK = new Check();
    private static final int MIN = Integer.MIN_VALUE, MAX = Integer.MAX_VALUE;
    private static final int CARGO = Detentionbureau.CARGO, PASSENGER = Detentionbureau.PASSENGER;
    private static final int LOW = Detentionbureau.LOW, STANDARD = Detentionbureau.STANDARD, HIGH = Detentionbureau.HIGH;

    public static void main(String[] args) {
        oldBehind4380Days();
        pointsOfKinds();
        pointsOfGrey();
        pointsOfBlack();
        noPointsOfWhite();
        pointsOfASuspendedBody();
        moreThan5Findings();
        moreThan5InOneVisit();
        findingsOfTheLatest1095Days();
        detentionsThatCount();
        detentionsOfTheLatest1095Days();
        detentionsByTheirVisits();
        allPoints();
        highWith5();
        lowWithNoneAndWhite();
        neverVisited();
        windowHigh();
        windowStandard();
        windowLow();
        windowOfTheLatestVisit();
        windowByTheRiskOfNow();
        callsShipAndPort();
        callsAtAPort();
        leavesShip();
        leavesAtNoPort();
        leavesDetained();
        missedWithPriority2();
        missedByThePriorityOfThen();
        missedNotWhenVisited();
        missedAtEachPort();
        ofShipArguments();
        ofShipNumbers();
        pointsAnewShip();
        CHECK.end();
    }

    private static Run run(String sentence) {
        return new Run(CHECK, sentence).told("rule(0, 0, 7, 0, 0)");
    }

    private static Run points(Run run, int ship, int want) {
        return run.due("ofShip(" + ship + ", 0)", want).due("pointsAnew(" + ship + ")", want);
    }

    private static Run finds(Run run, int visit, int count) {
        for (int i = 0; i < count; i++) {
            run.told("finds(" + visit + ", 0, 1)");
        }
        return run;
    }

    private static void oldBehind4380Days() {
        Run run = run("Ships: built more than 4380 days ago").told("ship(-4380, 100, 0, 0, 0)", "ship(0, 100, 0, 0, 0)");
        run.told("ship(-4381, 100, 0, 0, 0)", "ship(-10000, 100, 0, 0, 0)");
        points(run, 0, 0);
        points(run, 2, 1);
        points(run, 3, 1);
        points(run.pass(1), 0, 1);
        points(run, 1, 0);
        points(run.pass(4379), 1, 0);
        points(run.pass(1), 1, 1);
        points(run.told("ship(4381, 100, 0, 0, 0)").pass(4380), 4, 0);
        points(run.pass(1), 4, 1);
    }

    private static void pointsOfKinds() {
        Run run = run("Risk: 1 for a TANKER, 2 for PASSENGER");
        for (int kind = CARGO; kind <= PASSENGER; kind++) {
            points(run.told("ship(0, 100, " + kind + ", 0, 0)"), kind, kind);
        }
    }

    private static void pointsOfGrey() {
        Run run = run("Risk: 1 if its flag is GREY").cargo(1, 0).cargo(2, 0);
        for (int visit = 0; visit < 5; visit++) {
            run.stays(0, 0);
        }
        points(run.due("list(1)", Detentionbureau.UNLISTED), 0, 0);
        run.stays(0, 0);
        points(run.due("list(1)", Detentionbureau.GREY), 0, 1);
        points(run, 1, 0);
        points(run.told("changes(1, 1, 0)", "changes(0, 2, 0)"), 1, 1);
        points(run, 0, 0);
        points(run.pass(1094), 1, 1);
        points(run.pass(1), 1, 0);
    }

    private static void pointsOfBlack() {
        Run run = run("Risk: 2 if it is BLACK").cargo(1, 0).cargo(1, 0).cargo(1, 0);
        run.detention(0, 0);
        int second = run.detention(1, 0);
        for (int visit = 0; visit < 3; visit++) {
            run.stays(0, 0);
        }
        points(run, 2, 0);
        run.stays(0, 0);
        points(run.due("list(1)", Detentionbureau.BLACK), 2, 2);
        points(run, 0, 3);
        points(run.told("appeal(" + second + ")", "vote(" + second + ", true)"), 2, 2);
        points(run.told("vote(" + second + ", true)").due("list(1)", Detentionbureau.GREY), 2, 1);
    }

    private static Run white(Run run) {
        for (int visit = 0; visit < 49; visit++) {
            run.stays(0, 0);
        }
        run.due("list(0)", Detentionbureau.GREY).stays(0, 0);
        return run.due("list(0)", Detentionbureau.WHITE);
    }

    private static void noPointsOfWhite() {
        points(white(run("Risk: none if its flag is WHITE").cargo(0, 0)), 0, 0);
    }

    private static void pointsOfASuspendedBody() {
        Run run = run("Risk: 1 if its body is suspended").cargo(0, 1).told("suspend(1, true)");
        points(run, 0, 1);
        points(run.told("suspend(2, true)", "suspend(1, false)"), 0, 0);
        points(run.told("changes(0, 0, 2)"), 0, 1);
        points(run.told("suspend(2, false)"), 0, 0);
    }

    private static void moreThan5Findings() {
        Run run = run("Risk: more than 5 findings").cargo(0, 0).cargo(0, 0);
        int visit = run.comes(0, 0);
        points(finds(run, visit, 5), 0, 0);
        points(run.noArgument("finds(" + visit + ", 0, 0)").noState("finds(" + visit + ", 1, 1)"), 0, 0);
        points(finds(run, visit, 1), 0, 1);
        points(run, 1, 0);
        for (int place = 0; place < 6; place++) {
            run.told("mends(" + visit + ", " + place + ", " + (place % 2 == 0) + ")");
        }
        points(run, 0, 1);
        points(finds(run, visit, 6), 0, 1);
    }

    private static void moreThan5InOneVisit() {
        Run run = run("Risk: one of its visits had more than 5").cargo(0, 0);
        finds(run, run.comes(0, 0), 5).told("leaves(0)");
        int second = run.comes(0, 0);
        points(finds(run, second, 5), 0, 0);
        points(finds(run, second, 1).told("leaves(0)"), 0, 1);
        points(finds(run, run.comes(0, 0), 6), 0, 1);
    }

    private static void findingsOfTheLatest1095Days() {
        Run run = run("Risk: findings of visits less than 1095 days ago").cargo(0, 0).pass(10);
        int visit = run.comes(0, 0);
        finds(run, visit, 5).pass(5);
        points(finds(run, visit, 1).pass(1089), 0, 1);
        points(run.pass(1), 0, 0);
        points(run.pass(1), 0, 0);
    }

    private static void detentionsThatCount() {
        Run run = run("Risk: 1 for each detention that counts, 2 at most").cargo(0, 0).cargo(0, 0);
        points(run, 0, 0);
        int first = run.detention(0, 0);
        points(run, 0, 1);
        int second = run.detention(0, 0);
        points(run, 0, 2);
        run.detention(0, 0);
        points(run, 0, 2);
        points(run, 1, 0);
        points(run.won(first), 0, 2);
        points(run.told("appeal(" + second + ")", "vote(" + second + ", true)", "vote(" + second + ", false)"), 0, 2);
        points(run.told("vote(" + second + ", true)"), 0, 1);
    }

    private static void detentionsOfTheLatest1095Days() {
        Run run = run("Risk: detentions by visits less than 1095 days ago").cargo(0, 0);
        run.detention(0, 0);
        run.pass(1).detention(0, 0);
        points(run.pass(1093), 0, 2);
        points(run.pass(1), 0, 1);
        points(run.pass(1), 0, 0);
    }

    private static void detentionsByTheirVisits() {
        Run run = run("Risk: by the day of the visit, not of the detention").cargo(0, 0);
        int visit = run.comes(0, 0);
        run.told("finds(" + visit + ", 0, 10)").pass(1094).due("detain(" + visit + ")", 1);
        points(run, 0, 1);
        points(run.pass(1), 0, 0);
        run = run("Risk: a detention by a visit of 1095 days ago").cargo(0, 0);
        visit = run.comes(0, 0);
        points(run.told("finds(" + visit + ", 0, 10)").pass(1095).due("detain(" + visit + ")", 0), 0, 0);
        run.due("ofVisit(" + visit + ", 6)", 1);
    }

    private static void allPoints() {
        Run run = run("Risk: all points together").told("ship(-5000, 100, 2, 1, 0)").certify(0);
        run.detention(0, 0);
        finds(run, run.detained(0, 0), 5).told("suspend(1, true)", "changes(0, 1, 1)");
        points(run, 0, 1 + 2 + 1 + 1 + 2);
        for (int place = 0; place < 6; place++) {
            run.told("mends(1, " + place + ", false)");
        }
        run.told("release(0)", "leaves(0)");
        for (int visit = 2; visit < 6; visit++) {
            run.stays(0, 0);
        }
        points(run, 0, 1 + 2 + 2 + 1 + 1 + 2).due("ofShip(0, 1)", HIGH);
    }

    private static void highWith5() {
        Run run = run("Risk: HIGH with 5 points or more").told("ship(-5000, 100, 2, 0, 0)").certify(0);
        points(run.told("suspend(0, true)"), 0, 4).due("ofShip(0, 1)", STANDARD);
        int visit = run.comes(0, 0);
        points(finds(run, visit, 5), 0, 4).due("ofShip(0, 1)", STANDARD);
        points(finds(run, visit, 1), 0, 5).due("ofShip(0, 1)", HIGH);
        points(run.told("detain(" + visit + ")"), 0, 6).due("ofShip(0, 1)", HIGH);
        points(run.told("suspend(0, false)"), 0, 5).due("ofShip(0, 1)", HIGH);
        points(run.won(visit), 0, 4).due("ofShip(0, 1)", STANDARD);
    }

    private static void lowWithNoneAndWhite() {
        Run run = run("Risk: LOW with none, if its flag is WHITE").cargo(0, 0).cargo(1, 0).told("ship(0, 100, 1, 0, 0)");
        run.due("ofShip(0, 1)", STANDARD);
        white(run).due("ofShip(0, 1)", LOW).due("ofShip(1, 1)", STANDARD).due("ofShip(2, 1)", STANDARD);
        run.told("suspend(0, true)").due("ofShip(0, 1)", STANDARD).told("suspend(0, false)").due("ofShip(0, 1)", LOW);
        run.told("changes(0, 1, 0)", "changes(1, 0, 0)").due("ofShip(0, 1)", STANDARD).due("ofShip(1, 1)", LOW);
        run.pass(1094).due("ofShip(1, 1)", LOW).pass(1).due("list(0)", Detentionbureau.UNLISTED).due("ofShip(1, 1)", STANDARD);
    }

    private static void neverVisited() {
        Run run = run("Risk: priority 2, if it was never visited").cargo(0, 0).due("ofShip(0, 2)", 2).due("calls(0, 0)", 2);
        run.pass(9).due("ofShip(0, 2)", 2).told("visit(0)").due("ofShip(0, 2)", 0);
    }

    /** The days behind the latest visit, which is of today. */
    private static void window(Run run, int ship, int begin, int end) {
        String calls = "calls(" + ship + ", 0)", leaves = "leaves(" + ship + ")", priority = "ofShip(" + ship + ", 2)";
        run.due(priority, 0).due(calls, 0).no(leaves);
        run.pass(begin - 1).due(priority, 0).due(calls, 0).noState(calls).no(leaves).noState(leaves);
        run.pass(1).due(priority, 1).due(calls, 1).no(leaves);
        run.pass(end - begin).due(priority, 1).due(calls, 1).no(leaves);
        run.pass(1).due(priority, 2).due(calls, 2).due("missed(0)", 0).yes(leaves).due("missed(0)", 1);
    }

    private static Run high(String sentence) {
        Run run = run(sentence).told("ship(-5000, 100, 2, 0, 0)", "suspend(0, true)").pass(7);
        return finds(run, run.comes(0, 1), 6).told("leaves(0)").due("ofShip(0, 1)", HIGH);
    }

    private static void windowHigh() {
        window(high("Risk: HIGH 150 and 180"), 0, 150, 180);
    }

    private static void windowStandard() {
        Run run = run("Risk: STANDARD 300 and 360").cargo(0, 0).pass(7);
        run.stays(0, 1);
        window(run.due("ofShip(0, 1)", STANDARD), 0, 300, 360);
    }

    private static void windowLow() {
        window(white(run("Risk: LOW 720 and 1080").cargo(0, 0)).due("ofShip(0, 1)", LOW), 0, 720, 1080);
    }

    private static void windowOfTheLatestVisit() {
        Run run = run("Risk: behind its latest visit").cargo(0, 0).cargo(0, 0);
        run.stays(0, 0);
        run.pass(350).stays(0, 0);
        run.pass(10).stays(1, 0);
        run.pass(1).due("ofShip(0, 2)", 0).pass(288).due("ofShip(0, 2)", 0).pass(1).due("ofShip(0, 2)", 1).due("ofShip(1, 2)", 0);
    }

    private static void windowByTheRiskOfNow() {
        Run run = high("Risk: the window of a ship as it is").pass(181).due("ofShip(0, 2)", 2);
        run.told("suspend(0, false)").due("ofShip(0, 2)", 0).pass(119).due("ofShip(0, 2)", 1);
        run.told("suspend(0, true)").due("ofShip(0, 2)", 2);
    }

    private static void callsShipAndPort() {
        Run run = run("9: if there is no such ship or port").cargo(0, 0);
        run.noIndex("calls(-1, 0)", "calls(1, 0)", "calls(" + MIN + ", 0)", "calls(" + MAX + ", 0)");
        run.noIndex("calls(0, -1)", "calls(0, 4)", "calls(0, " + MIN + ")", "calls(0, " + MAX + ")");
        run.due("ofShip(0, 3)", Detentionbureau.NONE).due("calls(0, 3)", 2).due("ofShip(0, 3)", 3);
        run.noIndex("calls(0, 4)", "calls(1, 3)").told("leaves(0)").due("calls(0, 0)", 2).due("ofShip(0, 3)", 0);
    }

    private static void callsAtAPort() {
        Run run = run("9: if it is at a port").cargo(0, 0).told("calls(0, 2)").noState("calls(0, 2)", "calls(0, 0)");
        run.pass(1).noState("calls(0, 2)").due("ofShip(0, 3)", 2).told("visit(0)").noState("calls(0, 3)");
        run.told("leaves(0)").due("calls(0, 3)", 0).due("ofShip(0, 3)", 3);
    }

    private static void leavesShip() {
        Run run = run("10: if there is no such ship").cargo(0, 0).told("calls(0, 0)");
        run.noIndex("leaves(-1)", "leaves(1)", "leaves(" + MIN + ")", "leaves(" + MAX + ")").yes("leaves(0)");
    }

    private static void leavesAtNoPort() {
        Run run = run("10: if it is at no port").cargo(0, 0).noState("leaves(0)").told("calls(0, 1)").yes("leaves(0)");
        run.noState("leaves(0)").due("missed(1)", 1).due("ofShip(0, 3)", Detentionbureau.NONE);
    }

    private static void leavesDetained() {
        Run run = run("10: if it is DETAINED").cargo(0, 0);
        int visit = run.detained(0, 1);
        run.noState("leaves(0)").pass(400).noState("leaves(0)").due("ofShip(0, 3)", 1).certify(0).told("mends(" + visit + ", 0, false)");
        run.noState("leaves(0)").told("release(0)").no("leaves(0)").due("missed(1)", 0);
    }

    private static void missedWithPriority2() {
        Run run = run("Visits: that leaves with the priority 2").cargo(0, 0);
        run.stays(0, 0);
        run.pass(299).told("calls(0, 0)").no("leaves(0)").pass(1).told("calls(0, 1)").no("leaves(0)").due("missed(1)", 0);
        run.pass(60).told("calls(0, 2)").no("leaves(0)").pass(1).told("calls(0, 3)").yes("leaves(0)");
        run.due("missed(0)", 0).due("missed(1)", 0).due("missed(2)", 0).due("missed(3)", 1);
    }

    private static void missedByThePriorityOfThen() {
        Run run = run("Visits: it leaves with the priority 2, though it came with 1").cargo(0, 0);
        run.stays(0, 0);
        run.pass(360).due("calls(0, 2)", 1).pass(1).yes("leaves(0)").due("missed(2)", 1);
        run = high("Visits: it leaves with the priority 0, though it came with 2").pass(181).due("calls(0, 2)", 2);
        run.told("suspend(0, false)").no("leaves(0)").due("missed(2)", 0);
    }

    private static void missedNotWhenVisited() {
        Run run = run("Visits: was not visited there since it came").cargo(0, 0).told("calls(0, 1)", "visit(0)").pass(361);
        run.due("ofShip(0, 2)", 2).no("leaves(0)").due("missed(1)", 0).due("calls(0, 1)", 2).yes("leaves(0)").due("missed(1)", 1);
    }

    private static void missedAtEachPort() {
        Run run = run("23: port: 0 to 3, each leaving by itself").cargo(0, 0).cargo(0, 0);
        run.noIndex("missed(-1)", "missed(4)", "missed(" + MIN + ")", "missed(" + MAX + ")");
        for (int port = 0; port < 4; port++) {
            for (int i = 0; i <= port; i++) {
                run.due("missed(" + port + ")", i).told("calls(" + i % 2 + ", " + port + ")").yes("leaves(" + i % 2 + ")");
            }
        }
        for (int port = 0; port < 4; port++) {
            run.due("missed(" + port + ")", port + 1);
        }
    }

    private static void ofShipArguments() {
        Run run = run("18: a ship, and 0 to 7").cargo(0, 0);
        run.noIndex("ofShip(-1, 0)", "ofShip(1, 0)", "ofShip(" + MIN + ", 0)", "ofShip(" + MAX + ", 7)");
        run.noArgument("ofShip(0, -1)", "ofShip(0, 8)", "ofShip(0, " + MIN + ")", "ofShip(0, " + MAX + ")");
        run.noIndex("ofShip(1, 8)", "ofShip(-1, -1)").due("ofShip(0, 0)", 0).due("ofShip(0, 7)", 0);
    }

    private static void ofShipNumbers() {
        Run run = run("18: each of its numbers").told("ship(0, 100, 1, 0, 0)");
        int[] told = {1, STANDARD, 2, Detentionbureau.NONE, 0, 0, 0, 31};
        for (int what = 0; what < told.length; what++) {
            run.due("ofShip(0, " + what + ")", told[what]);
        }
        int visit = run.certify(0).detained(0, 3);
        int[] held = {2, STANDARD, 0, 3, 1, 0, 0, 0};
        for (int what = 0; what < held.length; what++) {
            run.due("ofShip(0, " + what + ")", held[what]);
        }
        run.pass(2).released(0, visit).due("ofShip(0, 4)", 0).due("ofShip(0, 6)", 200).due("ofShip(0, 3)", 3);
    }

    private static void pointsAnewShip() {
        Run run = run("19: if there is no such ship").noIndex("pointsAnew(0)").told("ship(0, 100, 2, 0, 0)").due("pointsAnew(0)", 2);
        run.noIndex("pointsAnew(-1)", "pointsAnew(1)", "pointsAnew(" + MIN + ")", "pointsAnew(" + MAX + ")");
    }
}
