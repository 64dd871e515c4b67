/** The boundary cases of promises 14 to 17 and 22, a test for each sentence: detentions, bans, appeals, lists. */
final class EdgesOfDetentionsTest {
    private static final Check CHECK = new Check();
    private static final int MIN = Integer.MIN_VALUE, MAX = Integer.MAX_VALUE;

    public static void main(String[] args) {
        detainVisit();
        detainHasLeft();
        detainWasDetained();
        weightsOf10();
        notMendedNorPutOff();
        detainByACertificate();
        howManyCount();
        howManyOfTheLatest1095Days();
        withThisOneIfItsVisitIs();
        releaseShip();
        releaseNotDetained();
        releaseAllFindings();
        releaseOfItsVisitAlone();
        releaseCertificates();
        feeForEachDay();
        theThirdDetention();
        bannedAsItIsReleased();
        bannedDays();
        bannedUpTo9000();
        thirdOfTheLatest1095Days();
        lookedAtAsItIsDetained();
        detentionsThatLed();
        appealedAheadOfTheThird();
        appealedBehindTheThird();
        lostAppealsCount();
        ofEachShip();
        callsThrowsInOrder();
        appealVisit();
        appealNoDetention();
        appealOnce();
        appealUpTo30Days();
        voteVisit();
        voteNotAppealed();
        secondVote();
        listFlag();
        listBelow6();
        listBlack();
        listXAndYOf0();
        listWhite();
        listOfTheLatest1095Days();
        listByTheFlagThen();
        at512Calls();
        CHECK.end();
    }

    private static Run run(String sentence) {
        return new Run(CHECK, sentence).told("rule(0, 0, 7, 0, 0)").cargo(0, 0);
    }

    private static void detainVisit() {
        Run run = run("14: if there is no such visit").noIndex("detain(0)").told("calls(0, 0)", "visit(0)", "finds(0, 0, 10)");
        run.noIndex("detain(-1)", "detain(1)", "detain(" + MIN + ")", "detain(" + MAX + ")").due("detain(0)", 1);
    }

    private static void detainHasLeft() {
        Run run = run("14: if the ship has left since").told("calls(0, 0)", "visit(0)", "finds(0, 0, 10)", "leaves(0)");
        run.noState("detain(0)").told("calls(0, 0)").noState("detain(0)").told("visit(0)", "finds(1, 0, 10)").noState("detain(0)");
        run.due("ofShip(0, 4)", 0).pass(1).due("detain(1)", 1).due("ofShip(0, 4)", 1).noState("detain(0)");
    }

    private static void detainWasDetained() {
        Run run = run("14: if it was DETAINED by it");
        run.detained(0, 0);
        run.noState("detain(0)").released(0, 0).told("finds(0, 0, 10)").noState("detain(0)").told("suspend(0, true)").noState("detain(0)");
        run = run("14: if it was DETAINED by it, though that counts no more");
        run.detained(0, 0);
        run.won(0).noState("detain(0)").released(0, 0).told("finds(0, 0, 10)").noState("detain(0)").due("ofShip(0, 4)", 0);
    }

    private static void weightsOf10() {
        Run run = run("Visits: 10 or more together").told("calls(0, 0)", "visit(0)").noState("detain(0)");
        run.told("finds(0, 0, 9)").noState("detain(0)").told("finds(0, 0, 1)").due("detain(0)", 1);
        run = run("Visits: 10 by one").told("calls(0, 0)", "visit(0)", "finds(0, 0, 10)").due("detain(0)", 1);
        run = run("Visits: findings of that visit").told("calls(0, 0)", "visit(0)", "finds(0, 0, 9)", "leaves(0)", "calls(0, 0)");
        run.told("visit(0)", "finds(1, 0, 9)").noState("detain(1)", "detain(0)").told("finds(1, 0, 2)").due("detain(1)", 1);
    }

    private static void notMendedNorPutOff() {
        Run run = run("Visits: findings that are not mended, nor put off").told("calls(0, 0)", "visit(0)", "finds(0, 0, 7)");
        run.told("finds(0, 0, 10)", "finds(0, 0, 3)", "mends(0, 1, false)", "mends(0, 2, true)").noState("detain(0)");
        run.told("finds(0, 0, 2)").noState("detain(0)").told("finds(0, 0, 1)", "mends(0, 2, false)").due("detain(0)", 1);
    }

    private static void detainByACertificate() {
        for (int family = 0; family < 5; family++) {
            Run run = run("Visits: a certificate has lapsed, of the family " + family).told("issue(0, " + family + ", 4)");
            run.told("calls(0, 0)", "visit(0)").pass(4).noState("detain(0)").pass(1).due("detain(0)", 1);
        }
        Run run = run("Visits: a certificate lacks").told("ship(0, 100, 0, 0, 0)", "calls(1, 0)", "visit(1)");
        run.told("issue(1, 4, 9)", "issue(1, 0, 9)", "issue(1, 1, 9)", "issue(1, 2, 9)").due("detain(0)", 1).due("ofShip(1, 4)", 1);
        run = run("Visits: none lacks").told("ship(0, 100, 0, 0, 0)", "calls(1, 0)", "visit(1)").certify(1).noState("detain(0)");
    }

    private static void howManyCount() {
        Run run = run("14: how many detentions of it count").cargo(0, 0);
        run.detention(1, 0);
        run.told("calls(0, 0)", "visit(0)", "finds(1, 0, 10)").due("detain(1)", 1).won(1).released(0, 1).told("leaves(0)");
        run.told("calls(0, 0)", "visit(0)", "finds(2, 0, 10)").due("detain(2)", 1).released(0, 2).told("leaves(0)");
        run.told("calls(0, 0)", "visit(0)", "finds(3, 0, 10)").due("detain(3)", 2).released(0, 3).told("leaves(0)");
        run.told("calls(0, 0)", "visit(0)", "finds(4, 0, 10)").due("detain(4)", 3);
    }

    private static void howManyOfTheLatest1095Days() {
        Run run = run("14: whose visits are of the latest 1095 days");
        run.detention(0, 0);
        run.pass(1).detention(0, 0);
        run.pass(1093).certify(0).told("calls(0, 0)", "visit(0)", "finds(2, 0, 10)").due("detain(2)", 3);
        run = run("14: one of them 1095 days ago");
        run.detention(0, 0);
        run.pass(1).detention(0, 0);
        run.pass(1094).certify(0).told("calls(0, 0)", "visit(0)", "finds(2, 0, 10)").due("detain(2)", 2).due("ofVisit(0, 6)", 1);
    }

    private static void withThisOneIfItsVisitIs() {
        Run run = run("14: with this one, if its visit is").told("calls(0, 0)", "visit(0)", "finds(0, 0, 10)").pass(1094).due("detain(0)", 1);
        run = run("14: its visit is not").told("calls(0, 0)", "visit(0)", "finds(0, 0, 10)").pass(1095).due("detain(0)", 0);
        run.due("ofVisit(0, 6)", 1).due("ofShip(0, 4)", 1).told("appeal(0)").due("vote(0, true)", 0).due("vote(0, true)", 1);
        run.due("ofVisit(0, 6)", 0);
    }

    private static void releaseShip() {
        Run run = run("15: if there is no such ship");
        run.detained(0, 0);
        run.told("mends(0, 0, false)").noIndex("release(-1)", "release(1)", "release(" + MIN + ")", "release(" + MAX + ")");
        run.due("release(0)", 0);
    }

    private static void releaseNotDetained() {
        Run run = run("15: if it is not DETAINED").noState("release(0)").told("calls(0, 0)").noState("release(0)");
        run.told("visit(0)", "finds(0, 0, 10)", "mends(0, 0, false)").noState("release(0)").told("finds(0, 0, 10)", "detain(0)");
        run.told("mends(0, 1, false)").due("release(0)", 0).noState("release(0)").told("leaves(0)").noState("release(0)");
    }

    private static void releaseAllFindings() {
        Run run = run("Visits: released, when all findings are mended or put off").told("calls(0, 0)", "visit(0)");
        run.told("finds(0, 0, 1)", "finds(0, 0, 9)", "finds(0, 0, 7)", "detain(0)").noState("release(0)");
        run.told("mends(0, 1, false)", "mends(0, 2, true)").noState("release(0)", "leaves(0)").told("mends(0, 0, false)", "finds(0, 0, 1)");
        run.noState("release(0)").told("mends(0, 3, true)").due("release(0)", 0).told("finds(0, 0, 10)").no("leaves(0)");
    }

    private static void releaseOfItsVisitAlone() {
        Run run = run("Visits: findings of the visit by which it is DETAINED").told("calls(0, 0)", "visit(0)", "finds(0, 0, 9)", "leaves(0)");
        run.told("calls(0, 0)", "visit(0)", "finds(1, 0, 10)", "detain(1)", "mends(0, 0, false)").noState("release(0)");
        run = run("Visits: open ones of another visit").told("calls(0, 0)", "visit(0)", "finds(0, 0, 9)", "leaves(0)");
        run.told("calls(0, 0)", "visit(0)", "finds(1, 0, 10)", "detain(1)", "mends(1, 0, false)").due("release(0)", 0);
    }

    private static void releaseCertificates() {
        for (int family = 0; family < 5; family++) {
            Run run = run("Visits: no certificate has lapsed, of the family " + family).told("issue(0, " + family + ", 4)");
            run.detained(0, 0);
            run.told("mends(0, 0, false)").pass(5).noState("release(0)", "leaves(0)").told("issue(0, " + family + ", 1)").pass(1);
            run.due("release(0)", 600);
        }
        Run run = run("Visits: no certificate lacks").told("ship(0, 100, 0, 0, 0)", "calls(1, 0)", "visit(1)", "detain(0)");
        run.noState("release(1)").told("issue(1, 0, 9)", "issue(1, 1, 9)", "issue(1, 2, 9)", "issue(1, 3, 9)").noState("release(1)");
        run.told("issue(1, 4, 9)", "suspend(0, true)").noState("release(1)").told("suspend(0, false)").due("release(1)", 0);
    }

    private static void feeForEachDay() {
        Run run = run("Visits: its fee is 100 for each day").told("calls(0, 0)").pass(1).told("visit(0)", "finds(0, 0, 10)").pass(1);
        run.told("detain(0)", "mends(0, 0, false)").due("ofShip(0, 6)", 0).due("release(0)", 0).due("ofShip(0, 6)", 0).pass(5);
        run.told("leaves(0)").due("ofShip(0, 6)", 0);
        run.detained(0, 0);
        run.pass(1).told("mends(1, 0, false)").due("ofShip(0, 6)", 0).due("release(0)", 100).due("ofShip(0, 6)", 100).told("leaves(0)");
        run.detained(0, 0);
        run.pass(2).told("mends(2, 0, false)").due("release(0)", 200).due("ofShip(0, 6)", 300).pass(9).due("ofShip(0, 6)", 300);
        run = run("Visits: the dearest fee");
        run.detained(0, 0);
        run.pass(9000).certify(0).told("mends(0, 0, false)").due("release(0)", 900000).due("ofShip(0, 6)", 900000);
    }

    private static void theThirdDetention() {
        Run run = run("Visits: with the third detention that counts");
        run.detention(0, 0);
        run.due("ofShip(0, 5)", 0).detention(0, 0);
        run.due("ofShip(0, 5)", 0).told("calls(0, 1)", "visit(0)", "leaves(0)").detention(0, 0);
        run.due("ofShip(0, 5)", 1).noState("calls(0, 0)");
    }

    private static void bannedAsItIsReleased() {
        Run run = run("Visits: it is banned, as it is released");
        run.detention(0, 0);
        run.detention(0, 0);
        run.detained(0, 0);
        run.due("ofShip(0, 5)", 0).pass(60).due("ofShip(0, 5)", 0).released(0, 2).due("ofShip(0, 5)", 1).no("leaves(0)");
        run.noState("calls(0, 0)").pass(90).noState("calls(0, 0)").due("ofShip(0, 5)", 1).pass(1).due("ofShip(0, 5)", 0);
        run.due("calls(0, 0)", 0);
    }

    private static void three(Run run) {
        run.certify(0);
        for (int i = 0; i < 3; i++) {
            run.due("ofShip(0, 5)", 0).detention(0, 0);
        }
        run.due("ofShip(0, 5)", 1);
    }

    private static void bannedDays() {
        Run run = run("Visits: on that day and the 90 days behind it, 360, then for good").pass(3);
        three(run);
        run.noState("calls(0, 0)").pass(90).due("ofShip(0, 5)", 1).noState("calls(0, 0)").pass(1).due("ofShip(0, 5)", 0);
        three(run);
        run.noState("calls(0, 0)").pass(360).due("ofShip(0, 5)", 1).noState("calls(0, 0)").pass(1).due("ofShip(0, 5)", 0);
        three(run);
        run.noState("calls(0, 0)").pass(361).noState("calls(0, 0)").pass(9000 - run.today()).due("ofShip(0, 5)", 1).noState("calls(0, 0)");
    }

    private static void bannedUpTo9000() {
        Run run = run("Visits: a ban up to 8999").pass(8909);
        three(run);
        run.pass(90).noState("calls(0, 0)").pass(1).due("ofShip(0, 5)", 0).due("calls(0, 0)", 0);
        run = run("Visits: a ban up to 9000").pass(8910);
        three(run);
        run.pass(90).due("ofShip(0, 5)", 1).noState("calls(0, 0)");
    }

    private static void thirdOfTheLatest1095Days() {
        for (int days = 1094; days <= 1095; days++) {
            Run run = run("Visits: the third by visits of the latest 1095 days, the first one " + days + " ago");
            run.detention(0, 0);
            run.pass(1).detention(0, 0);
            run.pass(days - 1).certify(0).detention(0, 0);
            run.due("ofShip(0, 5)", days == 1094 ? 1 : 0);
        }
        Run run = run("Visits: the third by a visit of 1095 days ago").cargo(0, 0).told("calls(0, 0)", "visit(0)", "finds(0, 0, 10)");
        run.pass(1095).told("detain(0)").certify(0).released(0, 0).told("leaves(0)").detention(0, 0);
        run.detention(0, 0);
        run.due("ofShip(0, 5)", 0).detention(0, 0);
        run.due("ofShip(0, 5)", 1);
    }

    private static void lookedAtAsItIsDetained() {
        Run run = run("Visits: which is looked at as it is detained");
        run.detention(0, 0);
        run.pass(1).detention(0, 0);
        run.pass(1093).certify(0).detained(0, 0);
        run.pass(1).due("ofShip(0, 5)", 0).released(0, 2).due("ofShip(0, 5)", 1);
        run = run("Visits: not as it is visited");
        run.detention(0, 0);
        run.pass(1).detention(0, 0);
        run.pass(1093).certify(0).told("calls(0, 0)", "visit(0)", "finds(2, 0, 10)").pass(1).due("detain(2)", 2);
        run.released(0, 2).due("ofShip(0, 5)", 0);
    }

    private static void detentionsThatLed() {
        Run run = run("Visits: detentions that led to a ban do not lead to another");
        three(run);
        run.pass(91).detention(0, 0);
        run.due("ofShip(0, 5)", 0).detention(0, 0);
        run.due("ofShip(0, 5)", 0).told("calls(0, 0)", "visit(0)", "finds(5, 0, 10)").due("detain(5)", 6).released(0, 5);
        run.due("ofShip(0, 5)", 1).told("leaves(0)").pass(360).noState("calls(0, 0)").pass(1).due("calls(0, 0)", 2);
    }

    private static void appealedAheadOfTheThird() {
        Run run = run("Visits: the third that counts");
        run.detention(0, 0);
        run.won(0).detention(0, 0);
        run.detention(0, 0);
        run.due("ofShip(0, 5)", 0).detention(0, 0);
        run.due("ofShip(0, 5)", 1);
    }

    private static void appealedBehindTheThird() {
        Run run = run("Appeals: bans stay, as it is DETAINED");
        run.detention(0, 0);
        run.detention(0, 0);
        run.detained(0, 0);
        run.won(2).won(1).due("ofShip(0, 4)", 1).noState("leaves(0)").released(0, 2).due("ofShip(0, 5)", 1).no("leaves(0)");
        run.pass(90).noState("calls(0, 0)").pass(1).due("calls(0, 0)", 0);
        run = run("Appeals: bans stay, as it is banned");
        three(run);
        run.won(0).won(1).won(2).due("ofShip(0, 5)", 1).due("ofShip(0, 0)", 0).pass(90).noState("calls(0, 0)").pass(1);
        run.detention(0, 0);
        run.detention(0, 0);
        run.due("ofShip(0, 5)", 0).detention(0, 0);
        run.due("ofShip(0, 5)", 1).pass(360).due("ofShip(0, 5)", 1).pass(1).due("ofShip(0, 5)", 0);
    }

    private static void lostAppealsCount() {
        Run run = run("Appeals: with the second one against it, it stays");
        for (int visit = 0; visit < 3; visit++) {
            run.due("ofShip(0, 5)", 0).detention(0, 0);
            run.told("appeal(" + visit + ")", "vote(" + visit + ", false)", "vote(" + visit + ", true)");
            run.due("vote(" + visit + ", false)", 2).due("ofVisit(" + visit + ", 6)", 1);
        }
        run.due("ofShip(0, 5)", 1).due("ofShip(0, 0)", 2);
    }

    private static void ofEachShip() {
        Run run = run("Visits: the third one of the ship").cargo(0, 0);
        run.detention(0, 0);
        run.detention(1, 0);
        run.detention(0, 0);
        run.detention(1, 0);
        run.due("ofShip(0, 5)", 0).due("ofShip(1, 5)", 0).detention(1, 0);
        run.due("ofShip(0, 5)", 0).due("ofShip(1, 5)", 1).due("calls(0, 0)", 0).noState("calls(1, 0)");
    }

    private static void callsThrowsInOrder() {
        Run run = run("9: the exception that is named first");
        three(run);
        run.noIndex("calls(0, 4)", "calls(0, -1)", "calls(1, 0)").noState("calls(0, 3)").pass(91).told("calls(0, 3)");
        run.noIndex("calls(0, 4)").noState("calls(0, 3)");
    }

    private static void appealVisit() {
        Run run = run("16: if there is no such visit").noIndex("appeal(0)");
        run.detained(0, 0);
        run.noIndex("appeal(-1)", "appeal(1)", "appeal(" + MIN + ")", "appeal(" + MAX + ")").told("appeal(0)");
    }

    private static void appealNoDetention() {
        Run run = run("16: if there was no detention by it").told("calls(0, 0)", "visit(0)", "finds(0, 0, 10)").noState("appeal(0)");
        run.told("leaves(0)").noState("appeal(0)").detained(0, 0);
        run.noState("appeal(0)").told("appeal(1)").noState("appeal(0)");
    }

    private static void appealOnce() {
        Run run = run("16: if it was appealed");
        run.detained(0, 0);
        run.told("appeal(0)").noState("appeal(0)").told("vote(0, true)").noState("appeal(0)").told("vote(0, true)").noState("appeal(0)");
        run.released(0, 0).told("leaves(0)").detention(0, 0);
        run.told("appeal(1)", "vote(1, false)", "vote(1, false)").noState("appeal(1)", "appeal(0)");
    }

    private static void appealUpTo30Days() {
        Run run = run("Appeals: up to 30 days behind it").told("calls(0, 0)", "visit(0)", "finds(0, 0, 10)").pass(50).told("detain(0)");
        run.pass(30).told("appeal(0)").pass(100).due("vote(0, true)", 0).pass(100).due("vote(0, true)", 1);
        run = run("16: if more than 30 days went by");
        run.detained(0, 0);
        run.pass(31).noState("appeal(0)", "vote(0, true)").pass(500).noState("appeal(0)");
        run = run("Appeals: on the day of the detention");
        run.detained(0, 0);
        run.told("appeal(0)").due("vote(0, false)", 0);
    }

    private static void voteVisit() {
        Run run = run("17: if there is no such visit").noIndex("vote(0, true)");
        run.detained(0, 0);
        run.told("appeal(0)").noIndex("vote(-1, true)", "vote(1, true)", "vote(" + MIN + ", false)", "vote(" + MAX + ", false)");
        run.due("vote(0, true)", 0);
    }

    private static void voteNotAppealed() {
        Run run = run("17: if it was not appealed").told("calls(0, 0)", "visit(0)").noState("vote(0, true)", "vote(0, false)");
        run.told("finds(0, 0, 10)", "detain(0)").noState("vote(0, true)", "vote(0, false)").told("appeal(0)").due("vote(0, false)", 0);
    }

    private static void secondVote() {
        boolean[][] votes = {{true, true}, {true, false, true}, {false, true, true},
            {false, false}, {false, true, false}, {true, false, false}};
        for (int i = 0; i < votes.length; i++) {
            Run run = run("Appeals: the second vote of " + java.util.Arrays.toString(votes[i]));
            run.detention(0, 0);
            run.told("appeal(0)");
            for (int place = 0; place < votes[i].length; place++) {
                boolean isLast = place == votes[i].length - 1;
                run.due("ofVisit(0, 6)", 1).due("vote(0, " + votes[i][place] + ")", !isLast ? 0 : i < 3 ? 1 : 2);
            }
            run.noState("vote(0, true)", "vote(0, false)").due("ofVisit(0, 6)", i < 3 ? 0 : 1).due("ofShip(0, 0)", i < 3 ? 0 : 1);
        }
    }

    private static void listFlag() {
        Run run = run("22: flag: 0 to 5").noIndex("list(-1)", "list(6)", "list(" + MIN + ")", "list(" + MAX + ")").due("list(0)", 0);
        run.told("changes(0, 5, 0)");
        for (int visit = 0; visit < 6; visit++) {
            run.stays(0, 0);
        }
        run.due("list(5)", Detentionbureau.GREY).due("list(0)", Detentionbureau.UNLISTED).noIndex("list(6)");
    }

    private static void listBelow6() {
        Run run = run("Lists: with n below 6").cargo(0, 0);
        for (int visit = 0; visit < 5; visit++) {
            run.due("list(0)", Detentionbureau.UNLISTED).detention(visit % 2, 0);
        }
        run.due("list(0)", Detentionbureau.UNLISTED).told("ship(0, 100, 0, 0, 0)").stays(2, 0);
        run.due("list(0)", Detentionbureau.BLACK);
    }

    /** Visits to the third ship, up to n in all, of which the first two were DETAINED by d. */
    private static Run listOf(String list, int n, int d) {
        Run run = run("Lists: " + list + ", " + n + " visits, " + d + " detentions").cargo(0, 0).cargo(0, 0);
        for (int i = 0; i < d; i++) {
            run.detention(i % 2, 0);
        }
        for (int i = d; i < n; i++) {
            run.stays(2, 0);
        }
        return run;
    }

    /** The first number of detentions that is BLACK, and the one below it: x x is above 1762 n, or is not. */
    private static void listBlack() {
        for (int[] first : new int[][] {{6, 2}, {7, 3}, {8, 3}, {13, 3}, {14, 4}, {21, 4}, {22, 5}, {31, 6}, {40, 6}}) {
            listOf("BLACK", first[0], first[1]).due("list(0)", Detentionbureau.BLACK);
            listOf("GREY", first[0], first[1] - 1).due("list(0)", Detentionbureau.GREY);
        }
    }

    private static void listXAndYOf0() {
        listOf("x is 0", 50, 4).due("list(0)", Detentionbureau.GREY);
        listOf("y is 0", 50, 3).due("list(0)", Detentionbureau.GREY);
        listOf("y is 100", 50, 2).due("list(0)", Detentionbureau.GREY);
        listOf("y is 300", 50, 0).due("list(0)", Detentionbureau.WHITE);
        listOf("y is 293", 49, 0).due("list(0)", Detentionbureau.GREY);
    }

    private static void listWhite() {
        Run run = run("Lists: WHITE");
        for (int visit = 0; visit < 49; visit++) {
            run.stays(0, 0);
        }
        run.due("list(0)", Detentionbureau.GREY).stays(0, 0);
        run.due("list(0)", Detentionbureau.WHITE).detention(0, 0);
        run.due("list(0)", Detentionbureau.GREY).won(50).due("list(0)", Detentionbureau.WHITE);
    }

    private static void listOfTheLatest1095Days() {
        Run run = run("Lists: visits of the latest 1095 days");
        run.stays(0, 0);
        run.pass(1);
        for (int visit = 1; visit < 6; visit++) {
            run.stays(0, 0);
        }
        run.due("list(0)", Detentionbureau.GREY).pass(1093).due("list(0)", Detentionbureau.GREY).pass(1);
        run.due("list(0)", Detentionbureau.UNLISTED).stays(0, 0);
        run.due("list(0)", Detentionbureau.GREY).pass(1).due("list(0)", Detentionbureau.UNLISTED);
    }

    private static void listByTheFlagThen() {
        Run run = run("Lists: by the flag that they had then");
        for (int visit = 0; visit < 6; visit++) {
            run.told("calls(0, 0)", "changes(0, 3, 0)", "visit(0)", "changes(0, 4, 0)", "leaves(0)");
        }
        run.due("list(3)", Detentionbureau.GREY).due("list(4)", Detentionbureau.UNLISTED).due("list(0)", Detentionbureau.UNLISTED);
    }

    /** Every call up to the 512th is promised; the longest files a ship can have by then. */
    private static void at512Calls() {
        Run run = new Run(CHECK, "At most 512 calls: told anew").told("suspend(3, true)", "ship(0, 100, 0, 0, 0)");
        for (int i = 1; i <= 508; i++) {
            run.due("changes(0, 1, 1)", i);
        }
        run.due("changes(0, 0, 3)", 509).due("pointsAnew(0)", 1);
        run = new Run(CHECK, "At most 512 calls: found").told("rule(0, 0, 7, 0, 0)", "ship(0, 100, 0, 0, 0)");
        for (int visit = 0; visit < 33; visit++) {
            run.told("calls(0, 0)", "visit(0)");
            for (int place = 0; place < 12; place++) {
                run.due("finds(" + visit + ", 0, 1)", place);
            }
            run.told("leaves(0)");
        }
        run.told("calls(0, 0)", "visit(0)").due("list(0)", Detentionbureau.GREY);
        run.due("ofShip(0, 0)", 2).due("pointsAnew(0)", 2).due("knew(0, 0, 0)", 396).due("ofVisit(32, 4)", 12);
        for (int place = 0; place < 6; place++) {
            run.due("finds(33, 0, 1)", place);
        }
        run.told("detain(33)").due("pointsAnew(0)", 3);
    }
}
