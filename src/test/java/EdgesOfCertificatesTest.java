/** The boundary cases of promises 7 and 8, a test for each sentence: certificates. */
final class EdgesOfCertificatesTest {
    private static final Check CHECK = new Check();
    private static final int MIN = Integer.MIN_VALUE, MAX = Integer.MAX_VALUE;
    /** Sets of families, as ofShip(ship, 7) answers them. */
    private static final int ALL = 31, CLASS = 1, SAFETY = 2, RADIO = 4, LINE = 8, OIL = 16;

    public static void main(String[] args) {
        issueShip();
        issueFamily();
        issueTerm();
        issueThrowsInOrder();
        lastDayOfTheTerm();
        lastDayBehindTheDays();
        inPlaceOfOne();
        ofEachShip();
        issueBodySuspended();
        issueHangsOn();
        issueOnWhatLapsesToday();
        issueOnWhatWantsAnEndorsement();
        endorseShip();
        endorseFamily();
        endorseThrowsInOrder();
        endorseNone();
        anniversariesOfATerm();
        round90Days();
        lapsedFromTheNextDayOn();
        lapsedWithALaterAnniversary();
        lastDayWithinTheTime();
        wantAheadOfTheLastDay();
        fromTheDayOfIssue();
        theFirstWithoutOne();
        suspendedForSoLong();
        suspendedIsTheOneThatIssued();
        hangsForAsLong();
        forGoodByTime();
        forGoodByAnEndorsement();
        forGoodByWhatItHangsOn();
        CHECK.end();
    }

    private static Run run(String sentence) {
        return new Run(CHECK, sentence).told("ship(0, 100, 0, 0, 0)");
    }

    private static Run lapsed(Run run, int set) {
        return run.due("ofShip(0, 7)", set);
    }

    private static void issueShip() {
        Run run = run("7: if there is no such ship");
        run.noIndex("issue(-1, 0, 1)", "issue(1, 0, 1)", "issue(" + MIN + ", 0, 1)", "issue(" + MAX + ", 0, 1)");
        run.due("issue(0, 0, 1)", 1).told("ship(0, 100, 0, 0, 0)").due("issue(1, 0, 1)", 1).noIndex("issue(2, 0, 1)");
    }

    private static void issueFamily() {
        Run run = run("7: family: CLASS to OIL");
        run.noArgument("issue(0, -1, 1)", "issue(0, 5, 1)", "issue(0, " + MIN + ", 1)", "issue(0, " + MAX + ", 1)");
        lapsed(run, ALL).due("issue(0, 0, 1)", 1).due("issue(0, 4, 1)", 1);
        lapsed(run, SAFETY + RADIO + LINE).noArgument("issue(0, -1, 1)", "issue(0, 5, 1)");
    }

    private static void issueTerm() {
        Run run = run("7: term: 1 to 1825");
        run.noArgument("issue(0, 0, 0)", "issue(0, 0, -1)", "issue(0, 0, 1826)", "issue(0, 0, " + MIN + ")", "issue(0, 0, " + MAX + ")");
        lapsed(run, ALL).due("issue(0, 0, 1)", 1).due("issue(0, 4, 1825)", 1825).noArgument("issue(0, 0, 0)", "issue(0, 0, 1826)");
        lapsed(run, SAFETY + RADIO + LINE);
    }

    private static void issueThrowsInOrder() {
        Run run = run("7: the exception that is named first");
        run.noIndex("issue(1, 5, 0)", "issue(-1, 0, 1826)", "issue(1, 1, 1)");
        run.noArgument("issue(0, 1, 0)", "issue(0, 2, 1826)").noState("issue(0, 1, 1)", "issue(0, 2, 1825)", "issue(0, 3, 1)");
        run.told("suspend(0, true)").noArgument("issue(0, 5, 1)", "issue(0, 0, 0)", "issue(0, 0, 1826)");
        run.noIndex("issue(1, 0, 1)").noState("issue(0, 0, 1)");
    }

    private static void lastDayOfTheTerm() {
        Run run = run("Certificates: the last day of its term").pass(3).due("issue(0, 0, 1)", 4).due("issue(0, 4, 2)", 5);
        lapsed(run, ALL - CLASS - OIL).pass(1);
        lapsed(run, ALL - CLASS - OIL).pass(1);
        lapsed(run, ALL - OIL).pass(1);
        lapsed(run, ALL).noState("endorse(0, 0)", "endorse(0, 4)");
        run = run("Certificates: the last day of the longest term").pass(3).due("issue(0, 0, 1825)", 1828);
        for (int year = 1; year <= 4; year++) {
            run.pass(365).due("endorse(0, 0)", year);
        }
        lapsed(run.pass(365), ALL - CLASS);
        lapsed(run.pass(1), ALL);
    }

    private static void lastDayBehindTheDays() {
        Run run = run("Certificates: a last day behind 9000").pass(8999).due("issue(0, 0, 1)", 9000).due("issue(0, 4, 1825)", 10824);
        lapsed(run.pass(1), ALL - CLASS - OIL).due("issue(0, 1, 1825)", 10825);
    }

    private static void inPlaceOfOne() {
        Run run = run("Certificates: at most one of each family").told("issue(0, 0, 1825)", "issue(0, 0, 2)").pass(2);
        lapsed(run, ALL - CLASS).pass(1);
        lapsed(run, ALL).told("issue(0, 0, 1825)");
        lapsed(run, ALL - CLASS).pass(275).yes("endorse(0, 0)").told("issue(0, 0, 1825)").noState("endorse(0, 0)");
        run.pass(275).yes("endorse(0, 0)");
    }

    private static void ofEachShip() {
        Run run = run("Certificates: of each ship").told("ship(0, 100, 0, 0, 0)").certify(1);
        lapsed(run, ALL).due("ofShip(1, 7)", 0).noState("issue(0, 1, 1)", "issue(0, 2, 1)", "issue(0, 3, 1)", "endorse(0, 0)");
    }

    private static void issueBodySuspended() {
        Run run = run("7: if the body of the ship is suspended").told("issue(0, 0, 300)", "suspend(1, true)", "changes(0, 0, 1)");
        lapsed(run, ALL - CLASS).noState("issue(0, 0, 9)", "issue(0, 1, 9)", "issue(0, 4, 9)");
        run.told("changes(0, 0, 2)").due("issue(0, 4, 9)", 9).told("changes(0, 0, 1)", "suspend(1, false)").due("issue(0, 1, 9)", 9);
        lapsed(run, RADIO + LINE);
    }

    private static void issueHangsOn() {
        Run run = run("7: the one on which it hangs lacks").noState("issue(0, 1, 1)", "issue(0, 2, 1)", "issue(0, 3, 1)");
        run.due("issue(0, 4, 9)", 9).noState("issue(0, 1, 9)", "issue(0, 2, 9)", "issue(0, 3, 9)");
        run.due("issue(0, 0, 9)", 9).noState("issue(0, 2, 9)").due("issue(0, 3, 9)", 9).noState("issue(0, 2, 9)");
        run.due("issue(0, 1, 9)", 9).due("issue(0, 2, 9)", 9);
        lapsed(run, 0);
    }

    private static void issueOnWhatLapsesToday() {
        Run run = run("7: the one on which it hangs has lapsed").told("issue(0, 0, 5)").pass(5);
        run.due("issue(0, 1, 1)", 6).due("issue(0, 2, 9)", 14).due("issue(0, 3, 9)", 14).pass(1);
        run.noState("issue(0, 1, 9)", "issue(0, 2, 9)", "issue(0, 3, 9)").due("issue(0, 4, 9)", 15).due("issue(0, 0, 20)", 26);
        lapsed(run, 0).due("issue(0, 2, 20)", 26).pass(1);
        lapsed(run, SAFETY + RADIO).noState("issue(0, 2, 9)").due("issue(0, 3, 9)", 16).due("issue(0, 1, 9)", 16);
        lapsed(run, 0).due("issue(0, 2, 9)", 16);
    }

    private static void issueOnWhatWantsAnEndorsement() {
        Run run = run("7: it has lapsed for want of an endorsement").told("issue(0, 0, 1825)").pass(455);
        run.due("issue(0, 1, 9)", 464).pass(1).noState("issue(0, 1, 9)", "issue(0, 2, 9)", "issue(0, 3, 9)", "endorse(0, 0)");
        lapsed(run, ALL).due("issue(0, 0, 9)", 465).due("issue(0, 2, 9)", 465);
    }

    private static void endorseShip() {
        Run run = run("8: if there is no such ship").told("issue(0, 0, 1825)").pass(365);
        run.noIndex("endorse(-1, 0)", "endorse(1, 0)", "endorse(" + MIN + ", 0)", "endorse(" + MAX + ", 0)").due("endorse(0, 0)", 1);
    }

    private static void endorseFamily() {
        Run run = run("8: family: CLASS to OIL").told("issue(0, 0, 1825)", "issue(0, 4, 1825)").pass(365);
        run.noArgument("endorse(0, -1)", "endorse(0, 5)", "endorse(0, " + MIN + ")", "endorse(0, " + MAX + ")");
        run.due("endorse(0, 0)", 1).due("endorse(0, 4)", 1);
    }

    private static void endorseThrowsInOrder() {
        Run run = run("8: the exception that is named first").noIndex("endorse(1, 5)", "endorse(-1, -1)", "endorse(1, 0)");
        run.noArgument("endorse(0, 5)", "endorse(0, -1)").noState("endorse(0, 0)", "endorse(0, 4)");
    }

    private static void endorseNone() {
        Run run = run("8: if there is none").pass(365).noState("endorse(0, 0)", "endorse(0, 1)", "endorse(0, 4)");
        run.told("issue(0, 0, 1825)").noState("endorse(0, 0)", "endorse(0, 4)");
    }

    /** Endorsed on each anniversary; one with the last day of the term is none. */
    private static void anniversariesOfATerm() {
        int[][] terms = {{1, 0}, {364, 0}, {365, 0}, {366, 1}, {729, 1}, {730, 1}, {731, 2}, {1095, 2}, {1096, 3},
            {1460, 3}, {1461, 4}, {1824, 4}, {1825, 4}};
        for (int[] term : terms) {
            Run run = run("Certificates: each 365 days, ahead of that last day, of " + term[0]).pass(2);
            run.told("issue(0, 4, " + term[0] + ")");
            for (int year = 1; year <= term[1]; year++) {
                lapsed(run.pass(365), ALL - OIL).due("endorse(0, 4)", year).noState("endorse(0, 4)");
            }
            lapsed(run.pass(2 + term[0] - run.today()), ALL - OIL).noState("endorse(0, 4)");
            lapsed(run.pass(1), ALL).noState("endorse(0, 4)");
        }
    }

    /** CLASS is endorsed on the first day of each time, OIL on the last one. */
    private static void round90Days() {
        Run run = run("Certificates: from 90 days ahead to 90 days behind").told("issue(0, 0, 1825)", "issue(0, 4, 1825)");
        for (int year = 1; year <= 4; year++) {
            int at = 365 * year;
            run.pass(at - 91 - run.today()).noState("endorse(0, 0)", "endorse(0, 4)");
            run.pass(1).due("endorse(0, 0)", year).noState("endorse(0, 0)");
            run.pass(90).noState("endorse(0, 0)").pass(90).noState("endorse(0, 0)");
            lapsed(run, ALL - CLASS - OIL).due("endorse(0, 4)", year).noState("endorse(0, 4)");
            lapsed(run.pass(1), ALL - CLASS - OIL).noState("endorse(0, 0)", "endorse(0, 4)");
        }
    }

    private static void lapsedFromTheNextDayOn() {
        Run run = run("Certificates: lapsed from the next day on").told("issue(0, 0, 1825)", "issue(0, 4, 1825)").pass(455);
        lapsed(run, ALL - CLASS - OIL).due("endorse(0, 4)", 1).pass(1);
        lapsed(run, ALL - OIL).noState("endorse(0, 0)", "endorse(0, 4)").pass(184);
        lapsed(run, ALL - OIL).noState("endorse(0, 0)").due("endorse(0, 4)", 2);
    }

    private static void lapsedWithALaterAnniversary() {
        for (int missing = 2; missing <= 4; missing++) {
            Run run = run("Certificates: lapsed for want of the endorsement " + missing).told("issue(0, 0, 1825)");
            for (int year = 1; year < missing; year++) {
                run.pass(365).due("endorse(0, 0)", year);
            }
            lapsed(run.pass(365 + 90), ALL - CLASS).pass(1);
            lapsed(run, ALL).noState("endorse(0, 0)");
        }
    }

    private static void lastDayWithinTheTime() {
        Run run = run("Certificates: the last day within an anniversary's time").told("issue(0, 0, 366)", "issue(0, 4, 366)").pass(274);
        run.noState("endorse(0, 0)").pass(1).due("endorse(0, 0)", 1).pass(91);
        lapsed(run, ALL - CLASS - OIL).due("endorse(0, 4)", 1).pass(1);
        lapsed(run, ALL).noState("endorse(0, 0)", "endorse(0, 4)");
    }

    private static void wantAheadOfTheLastDay() {
        Run run = run("Certificates: want of an endorsement ahead of the last day").told("issue(0, 0, 456)", "issue(0, 4, 456)");
        run.pass(455).due("endorse(0, 4)", 1);
        lapsed(run, ALL - CLASS - OIL).pass(1);
        lapsed(run, ALL - OIL).pass(1);
        lapsed(run, ALL);
    }

    private static void fromTheDayOfIssue() {
        Run run = run("Certificates: each 365 days behind its day").pass(100).told("issue(0, 0, 1825)").pass(274);
        run.noState("endorse(0, 0)").told("issue(0, 4, 1825)").pass(1).due("endorse(0, 0)", 1).noState("endorse(0, 4)");
        run.pass(273).noState("endorse(0, 4)").pass(1).due("endorse(0, 4)", 1).noState("endorse(0, 0)");
    }

    private static void theFirstWithoutOne() {
        Run run = run("Certificates: the first anniversary that has none").told("issue(0, 0, 1825)").pass(455);
        run.due("endorse(0, 0)", 1).noState("endorse(0, 0)").pass(184).noState("endorse(0, 0)");
        run.pass(1).due("endorse(0, 0)", 2).noState("endorse(0, 0)");
    }

    private static void suspendedForSoLong() {
        Run run = run("Certificates: suspended now, for so long").told("issue(0, 0, 1825)", "issue(0, 1, 1825)").pass(300);
        lapsed(run.told("suspend(0, true)"), ALL).noState("endorse(0, 0)", "endorse(0, 1)", "issue(0, 0, 9)");
        lapsed(run.pass(155), ALL).told("suspend(0, false)");
        lapsed(run, ALL - CLASS - SAFETY).due("endorse(0, 0)", 1).told("suspend(0, true)").noState("endorse(0, 1)");
        lapsed(run.told("suspend(0, true)", "suspend(0, false)"), ALL - CLASS - SAFETY).due("endorse(0, 1)", 1);
    }

    private static void suspendedIsTheOneThatIssued() {
        Run run = run("Certificates: the body that issued it").told("issue(0, 0, 1825)", "changes(0, 0, 1)", "issue(0, 4, 1825)").pass(365);
        lapsed(run.told("suspend(1, true)"), ALL - CLASS).due("endorse(0, 0)", 1).noState("endorse(0, 4)");
        lapsed(run.told("changes(0, 0, 0)"), ALL - CLASS).told("suspend(1, false)", "suspend(0, true)");
        lapsed(run, ALL - OIL).due("endorse(0, 4)", 1).noState("issue(0, 4, 1)");
    }

    private static void hangsForAsLong() {
        Run run = run("Certificates: as long as the one on which it hangs").told("issue(0, 0, 10)", "issue(0, 1, 100)");
        run.told("issue(0, 2, 100)", "issue(0, 3, 100)", "issue(0, 4, 100)").pass(10);
        lapsed(run, 0).pass(1);
        lapsed(run, CLASS + SAFETY + RADIO + LINE).told("issue(0, 0, 100)");
        lapsed(run, 0).told("issue(0, 1, 1)").pass(2);
        lapsed(run, SAFETY + RADIO).told("issue(0, 1, 100)");
        lapsed(run, 0).told("issue(0, 2, 1)", "issue(0, 3, 1)", "issue(0, 4, 1)").pass(2);
        lapsed(run, RADIO + LINE + OIL);
    }

    private static void forGoodByTime() {
        Run run = run("Certificates: lapsed by time for good").told("issue(0, 0, 9)", "issue(0, 4, 10)", "suspend(0, true)").pass(10);
        lapsed(run.told("suspend(0, false)"), ALL - OIL).pass(500);
        lapsed(run, ALL).due("issue(0, 0, 9)", 519);
        lapsed(run, ALL - CLASS);
    }

    private static void forGoodByAnEndorsement() {
        Run run = run("Certificates: for want of an endorsement for good").told("issue(0, 0, 1825)", "suspend(0, true)").pass(456);
        lapsed(run.told("suspend(0, false)"), ALL).noState("endorse(0, 0)").pass(274);
        lapsed(run, ALL).noState("endorse(0, 0)").due("issue(0, 0, 1825)", 2555);
        lapsed(run, ALL - CLASS).noState("endorse(0, 0)").pass(275).due("endorse(0, 0)", 1);
    }

    private static void forGoodByWhatItHangsOn() {
        Run run = run("Certificates: not endorsed while what it hangs on had lapsed").told("issue(0, 0, 274)", "issue(0, 1, 1825)");
        run.told("issue(0, 3, 1825)").pass(275).noState("endorse(0, 1)", "endorse(0, 3)").pass(180);
        run.noState("endorse(0, 1)", "endorse(0, 3)").told("issue(0, 0, 100)").due("endorse(0, 3)", 1).pass(1);
        lapsed(run, SAFETY + RADIO + OIL).noState("endorse(0, 1)").due("issue(0, 1, 9)", 465);
        lapsed(run, RADIO + OIL);
    }
}
