/** The boundary cases of promises 1 to 6, a test for each sentence: days, ships, flags, bodies, rules. */
final class EdgesOfTellingTest {
    private static final Check CHECK = new Check();
    private static final int MIN = Integer.MIN_VALUE, MAX = Integer.MAX_VALUE;

    public static void main(String[] args) {
        newObject();
        passDays();
        passUpTo9000();
        shipBuilt();
        shipSize();
        shipKind();
        shipFlag();
        shipBody();
        upTo12Ships();
        shipThrowsInOrder();
        changesShip();
        changesFlagAndBody();
        changesHowOften();
        suspendBody();
        suspendWas();
        ruleCode();
        ruleSize();
        ruleKinds();
        ruleFrom();
        ruleDelay();
        upTo20Rules();
        ruleThrowsInOrder();
        leastSize();
        setOfKinds();
        inForceFromItsDay();
        builtAheadOfThatDay();
        builtAheadOfTheDay0();
        delayOfNothing();
        inForceWithTheLastDay();
        oneRuleOfSeveral();
        CHECK.end();
    }

    private static Run run(String sentence) {
        return new Run(CHECK, sentence);
    }

    private static void newObject() {
        Run run = run("1: the day 0, no ships, no rules");
        run.noIndex("changes(0, 0, 0)", "issue(0, 0, 1)", "endorse(0, 0)", "calls(0, 0)", "leaves(0)", "visit(0)");
        run.noIndex("finds(0, 0, 1)", "mends(0, 0, false)", "mends(0, 0, true)", "detain(0)", "release(0)");
        run.noIndex("appeal(0)", "vote(0, true)", "vote(0, false)", "ofShip(0, 0)", "pointsAnew(0)");
        run.noIndex("isGround(0, 0)", "ofVisit(0, 0)", "knew(0, 0, 0)");
        for (int flag = 0; flag < 6; flag++) {
            run.due("list(" + flag + ")", Detentionbureau.UNLISTED);
        }
        for (int port = 0; port < 4; port++) {
            run.due("missed(" + port + ")", 0);
        }
        for (int body = 0; body < 4; body++) {
            run.no("suspend(" + body + ", false)");
        }
        run.noArgument("ship(1, 100, 0, 0, 0)").due("ship(0, 100, 0, 0, 0)", 0);
        run.noArgument("knew(0, 0, 1)").due("knew(0, 0, 0)", 0);
        for (int code = 0; code < 10; code++) {
            run.no("isGround(0, " + code + ")");
        }
        run.noIndex("ofVisit(0, 0)").due("rule(0, 0, 1, 0, 0)", 0).yes("isGround(0, 0)");
        run.due("pass(1)", 1);
    }

    private static void passDays() {
        Run run = run("2: days: 1 to 500").cargo(0, 0);
        run.noArgument("pass(0)", "pass(-1)", "pass(501)", "pass(" + MIN + ")", "pass(" + MAX + ")");
        run.due("pass(1)", 1).due("pass(500)", 501);
        run.noArgument("pass(0)", "pass(501)");
    }

    private static void passUpTo9000() {
        Run run = run("2: if it would be above 9000").pass(8499);
        run.noArgument("pass(501)").due("pass(500)", 8999);
        run.noState("pass(2)", "pass(500)").noArgument("pass(501)", "pass(0)", "pass(" + MAX + ")", "pass(" + MIN + ")");
        run.due("pass(1)", 9000);
        run.noState("pass(1)", "pass(500)").noArgument("pass(501)", "pass(0)");
        run.due("ship(9000, 100, 0, 0, 0)", 0).due("issue(0, 0, 1825)", 10825).due("calls(0, 0)", 2).due("visit(0)", 0);
        run.due("ofVisit(0, 2)", 9000).due("knew(0, 0, 9000)", 0).noArgument("knew(0, 0, 9001)");
        run("2: just to 9000").pass(8500).due("pass(500)", 9000).noState("pass(1)");
        run("2: just above 9000").pass(8501).noState("pass(500)").due("pass(499)", 9000);
    }

    private static void shipBuilt() {
        Run run = run("3: built: -10000 to today");
        run.noArgument("ship(-10001, 100, 0, 0, 0)", "ship(1, 100, 0, 0, 0)");
        run.noArgument("ship(" + MIN + ", 100, 0, 0, 0)", "ship(" + MAX + ", 100, 0, 0, 0)");
        run.due("ship(-10000, 100, 0, 0, 0)", 0).due("ship(0, 100, 0, 0, 0)", 1).due("ship(-1, 100, 0, 0, 0)", 2);
        run.pass(7).noArgument("ship(8, 100, 0, 0, 0)", "ship(-10001, 100, 0, 0, 0)");
        run.due("ship(7, 100, 0, 0, 0)", 3).due("ship(-10000, 100, 0, 0, 0)", 4);
        run.due("ofShip(4, 0)", 1).due("ofShip(3, 0)", 0);
    }

    private static void shipSize() {
        Run run = run("3: size: 100 to 200000");
        run.noArgument("ship(0, 99, 0, 0, 0)", "ship(0, 200001, 0, 0, 0)", "ship(0, 0, 0, 0, 0)", "ship(0, -100, 0, 0, 0)");
        run.noArgument("ship(0, " + MIN + ", 0, 0, 0)", "ship(0, " + MAX + ", 0, 0, 0)");
        run.due("ship(0, 100, 0, 0, 0)", 0).due("ship(0, 200000, 0, 0, 0)", 1);
    }

    private static void shipKind() {
        Run run = run("3: kind: CARGO to PASSENGER");
        run.noArgument("ship(0, 100, -1, 0, 0)", "ship(0, 100, 3, 0, 0)");
        run.noArgument("ship(0, 100, " + MIN + ", 0, 0)", "ship(0, 100, " + MAX + ", 0, 0)");
        run.due("ship(0, 100, 0, 0, 0)", 0).due("ship(0, 100, 1, 0, 0)", 1).due("ship(0, 100, 2, 0, 0)", 2);
        run.due("ofShip(0, 0)", 0).due("ofShip(1, 0)", 1).due("ofShip(2, 0)", 2);
    }

    private static void shipFlag() {
        Run run = run("3: flag: 0 to 5");
        run.noIndex("ship(0, 100, 0, -1, 0)", "ship(0, 100, 0, 6, 0)");
        run.noIndex("ship(0, 100, 0, " + MIN + ", 0)", "ship(0, 100, 0, " + MAX + ", 0)");
        run.due("ship(0, 100, 0, 0, 0)", 0).due("ship(0, 100, 0, 5, 0)", 1);
    }

    private static void shipBody() {
        Run run = run("3: body: 0 to 3");
        run.noIndex("ship(0, 100, 0, 0, -1)", "ship(0, 100, 0, 0, 4)");
        run.noIndex("ship(0, 100, 0, 0, " + MIN + ")", "ship(0, 100, 0, 0, " + MAX + ")");
        run.due("ship(0, 100, 0, 0, 0)", 0).due("ship(0, 100, 0, 0, 3)", 1);
        run.told("suspend(3, true)").due("ofShip(0, 0)", 0).due("ofShip(1, 0)", 1);
    }

    private static void upTo12Ships() {
        Run run = run("3: if there are 12");
        for (int ship = 0; ship < 12; ship++) {
            run.noIndex("ofShip(" + ship + ", 0)").due("ship(0, 100, 0, 0, 0)", ship).due("ofShip(" + ship + ", 0)", 0);
        }
        run.noState("ship(0, 100, 0, 0, 0)", "ship(-10000, 200000, 2, 5, 3)").noIndex("ofShip(12, 0)");
        run.noState("ship(0, 100, 0, 0, 0)").due("ofShip(11, 3)", Detentionbureau.NONE);
        run.due("calls(11, 3)", 2).due("visit(11)", 0).due("ofVisit(0, 0)", 11);
    }

    private static void shipThrowsInOrder() {
        Run run = run("3: the exception that is named first").pass(1);
        run.noIndex("ship(2, 100, 0, 6, 0)", "ship(0, 99, 0, 0, 4)", "ship(0, 100, 3, -1, -1)");
        for (int ship = 0; ship < 12; ship++) {
            run.told("ship(0, 100, 0, 0, 0)");
        }
        run.noIndex("ship(0, 100, 0, 6, 0)", "ship(0, 100, 0, 0, 4)", "ship(2, 99, 3, 6, 4)");
        run.noArgument("ship(2, 100, 0, 0, 0)", "ship(0, 99, 0, 0, 0)", "ship(0, 100, 3, 0, 0)");
        run.noState("ship(1, 100, 0, 0, 0)");
    }

    private static void changesShip() {
        Run run = run("4: if there is no such ship").told("ship(0, 100, 0, 0, 0)");
        run.noIndex("changes(-1, 0, 0)", "changes(1, 0, 0)", "changes(" + MIN + ", 0, 0)", "changes(" + MAX + ", 0, 0)");
        run.due("changes(0, 0, 0)", 1).told("ship(0, 100, 0, 0, 0)").due("changes(1, 0, 0)", 1);
        run.noIndex("changes(2, 0, 0)");
    }

    private static void changesFlagAndBody() {
        Run run = run("4: flag: 0 to 5, body: 0 to 3").told("ship(0, 100, 0, 2, 2)", "suspend(3, true)");
        run.noIndex("changes(0, -1, 3)", "changes(0, 6, 3)", "changes(0, " + MIN + ", 3)", "changes(0, " + MAX + ", 3)");
        run.noIndex("changes(0, 0, -1)", "changes(0, 0, 4)", "changes(0, 0, " + MIN + ")", "changes(0, 0, " + MAX + ")");
        run.due("ofShip(0, 0)", 0).due("changes(0, 5, 3)", 1).due("ofShip(0, 0)", 1).due("changes(0, 0, 0)", 2);
        run.due("ofShip(0, 0)", 0);
    }

    private static void changesHowOften() {
        Run run = run("4: how often that was told").told("ship(0, 100, 0, 2, 2)", "ship(0, 100, 0, 2, 2)");
        run.due("changes(0, 2, 2)", 1).due("changes(0, 2, 2)", 2).noIndex("changes(0, 6, 2)").due("changes(0, 1, 1)", 3);
        run.due("changes(1, 1, 1)", 1).due("changes(0, 1, 1)", 4);
    }

    private static void suspendBody() {
        Run run = run("5: body: 0 to 3").told("ship(0, 100, 0, 0, 0)", "ship(0, 100, 0, 0, 3)");
        run.noIndex("suspend(-1, true)", "suspend(4, true)", "suspend(-1, false)", "suspend(4, false)");
        run.noIndex("suspend(" + MIN + ", true)", "suspend(" + MAX + ", true)");
        run.no("suspend(0, true)").no("suspend(3, true)").due("ofShip(0, 0)", 1).due("ofShip(1, 0)", 1);
        run.noIndex("suspend(-1, false)", "suspend(4, false)").due("ofShip(0, 0)", 1).due("ofShip(1, 0)", 1);
    }

    private static void suspendWas() {
        Run run = run("5: whether it was suspended").no("suspend(1, false)").no("suspend(1, true)").yes("suspend(1, true)");
        run.no("suspend(0, false)").no("suspend(2, false)").yes("suspend(1, false)").no("suspend(1, false)");
    }

    private static void ruleCode() {
        Run run = run("6: code: 0 to 9").told("ship(0, 100, 0, 0, 0)");
        run.noArgument("rule(-1, 0, 7, 0, 0)", "rule(10, 0, 7, 0, 0)");
        run.noArgument("rule(" + MIN + ", 0, 7, 0, 0)", "rule(" + MAX + ", 0, 7, 0, 0)");
        run.due("rule(0, 0, 7, 0, 0)", 0).due("rule(9, 0, 7, 0, 0)", 1).yes("isGround(0, 0)").yes("isGround(0, 9)");
        run.no("isGround(0, 1)").no("isGround(0, 8)");
    }

    private static void ruleSize() {
        Run run = run("6: size: 0 to 200000").told("ship(0, 100, 0, 0, 0)", "ship(0, 200000, 0, 0, 0)");
        run.noArgument("rule(0, -1, 7, 0, 0)", "rule(0, 200001, 7, 0, 0)");
        run.noArgument("rule(0, " + MIN + ", 7, 0, 0)", "rule(0, " + MAX + ", 7, 0, 0)");
        run.due("rule(0, 0, 7, 0, 0)", 0).due("rule(1, 200000, 7, 0, 0)", 1);
        run.yes("isGround(0, 0)").yes("isGround(1, 0)").no("isGround(0, 1)").yes("isGround(1, 1)");
    }

    private static void ruleKinds() {
        Run run = run("6: kinds: 1 to 7").told("ship(0, 100, 0, 0, 0)");
        run.noArgument("rule(0, 0, 0, 0, 0)", "rule(0, 0, 8, 0, 0)", "rule(0, 0, -1, 0, 0)", "rule(0, 0, 9, 0, 0)");
        run.noArgument("rule(0, 0, " + MIN + ", 0, 0)", "rule(0, 0, " + MAX + ", 0, 0)").no("isGround(0, 0)");
        run.due("rule(0, 0, 1, 0, 0)", 0).due("rule(0, 0, 7, 0, 0)", 1);
    }

    private static void ruleFrom() {
        Run run = run("6: from: 0 to 9000").told("ship(0, 100, 0, 0, 0)");
        run.noArgument("rule(0, 0, 7, -1, 0)", "rule(0, 0, 7, 9001, 0)");
        run.noArgument("rule(0, 0, 7, " + MIN + ", 0)", "rule(0, 0, 7, " + MAX + ", 0)").no("isGround(0, 0)");
        run.due("rule(1, 0, 7, 9000, 0)", 0).due("rule(0, 0, 7, 0, 0)", 1).no("isGround(0, 1)").yes("isGround(0, 0)");
    }

    private static void ruleDelay() {
        Run run = run("6: delay: 0 to 3000").told("ship(-1, 100, 0, 0, 0)");
        run.noArgument("rule(0, 0, 7, 0, -1)", "rule(0, 0, 7, 0, 3001)");
        run.noArgument("rule(0, 0, 7, 0, " + MIN + ")", "rule(0, 0, 7, 0, " + MAX + ")").no("isGround(0, 0)");
        run.due("rule(0, 0, 7, 0, 0)", 0).due("rule(1, 0, 7, 0, 3000)", 1).yes("isGround(0, 0)").no("isGround(0, 1)");
        run.pass(2999).no("isGround(0, 1)").pass(1).yes("isGround(0, 1)");
    }

    private static void upTo20Rules() {
        Run run = run("6: if there are 20").told("ship(0, 100, 0, 0, 0)");
        for (int rule = 0; rule < 19; rule++) {
            run.due("rule(0, 0, 2, 0, 0)", rule);
        }
        run.no("isGround(0, 9)").due("rule(9, 0, 1, 0, 0)", 19).yes("isGround(0, 9)");
        run.noState("rule(8, 0, 1, 0, 0)", "rule(0, 0, 7, 0, 0)").no("isGround(0, 8)").no("isGround(0, 0)");
    }

    private static void ruleThrowsInOrder() {
        Run run = run("6: the exception that is named first");
        for (int rule = 0; rule < 20; rule++) {
            run.told("rule(0, 0, 1, 0, 0)");
        }
        run.noArgument("rule(10, 0, 1, 0, 0)", "rule(0, -1, 1, 0, 0)", "rule(0, 0, 8, 0, 0)", "rule(0, 0, 1, 9001, 0)");
        run.noArgument("rule(0, 0, 1, 0, 3001)").noState("rule(0, 0, 1, 0, 0)");
    }

    private static void leastSize() {
        Run run = run("Rules: a least size").told("ship(0, 499, 0, 0, 0)", "ship(0, 500, 0, 0, 0)", "ship(0, 501, 0, 0, 0)");
        run.told("rule(0, 500, 7, 0, 0)").no("isGround(0, 0)").yes("isGround(1, 0)").yes("isGround(2, 0)");
        run.told("rule(0, 499, 7, 0, 0)").yes("isGround(0, 0)");
    }

    /** Code by code each set; 2 to the power of the kind is in it, or is not. */
    private static void setOfKinds() {
        Run run = run("Rules: a set of kinds");
        for (int kind = 0; kind < 3; kind++) {
            run.told("ship(0, 100, " + kind + ", 0, 0)");
        }
        for (int kinds = 1; kinds <= 7; kinds++) {
            run.told("rule(" + kinds + ", 0, " + kinds + ", 0, 0)");
        }
        int[][] sets = {{}, {0}, {1}, {0, 1}, {2}, {0, 2}, {1, 2}, {0, 1, 2}};
        for (int kinds = 0; kinds <= 7; kinds++) {
            for (int kind = 0; kind < 3; kind++) {
                int ship = kind;
                boolean isIn = java.util.Arrays.stream(sets[kinds]).anyMatch(one -> one == ship);
                run.due("isGround(" + ship + ", " + kinds + ")", isIn ? 1 : 0);
            }
        }
    }

    private static void inForceFromItsDay() {
        Run run = run("Rules: a day from which it is in force").pass(20).told("ship(20, 100, 0, 0, 0)", "rule(0, 0, 7, 20, 0)");
        run.yes("isGround(0, 0)").told("rule(1, 0, 7, 21, 0)", "rule(2, 0, 7, 19, 3000)").no("isGround(0, 1)");
        run.yes("isGround(0, 2)").pass(1).yes("isGround(0, 1)");
    }

    private static void builtAheadOfThatDay() {
        Run run = run("Rules: for ships that were built ahead of that day").told("rule(0, 0, 7, 30, 10)").pass(29);
        run.told("ship(29, 100, 0, 0, 0)").no("isGround(0, 0)").pass(1);
        run.told("ship(30, 100, 0, 0, 0)", "ship(29, 100, 0, 0, 0)");
        run.no("isGround(0, 0)").yes("isGround(1, 0)").no("isGround(2, 0)");
        run.pass(9).no("isGround(0, 0)").yes("isGround(1, 0)").no("isGround(2, 0)");
        run.pass(1).yes("isGround(0, 0)").yes("isGround(1, 0)").yes("isGround(2, 0)");
    }

    private static void builtAheadOfTheDay0() {
        Run run = run("Rules: built ahead of the day 0").told("ship(-1, 100, 0, 0, 0)", "ship(0, 100, 0, 0, 0)");
        run.told("rule(0, 0, 7, 0, 1)").no("isGround(0, 0)").yes("isGround(1, 0)").pass(1).yes("isGround(0, 0)");
    }

    private static void delayOfNothing() {
        Run run = run("Rules: a delay of 0").told("ship(-10000, 100, 0, 0, 0)", "rule(0, 0, 7, 1, 0)");
        run.no("isGround(0, 0)").pass(1).yes("isGround(0, 0)");
    }

    private static void inForceWithTheLastDay() {
        Run run = run("Rules: from 9000, or by a delay up to 9000, or behind it").told("ship(0, 100, 0, 0, 0)");
        run.told("rule(0, 0, 7, 9000, 0)", "rule(1, 0, 7, 9000, 1)", "rule(2, 0, 7, 6000, 3000)", "rule(3, 0, 7, 6001, 3000)");
        run.pass(8999).no("isGround(0, 0)").no("isGround(0, 1)").no("isGround(0, 2)").no("isGround(0, 3)");
        run.pass(1).told("ship(9000, 100, 0, 0, 0)").yes("isGround(0, 0)").no("isGround(0, 1)").yes("isGround(0, 2)");
        run.no("isGround(0, 3)").yes("isGround(1, 1)").yes("isGround(1, 3)");
    }

    private static void oneRuleOfSeveral() {
        Run run = run("Rules: if a rule with it is in force").told("ship(0, 500, 1, 0, 0)", "rule(4, 501, 7, 0, 0)");
        run.told("rule(4, 0, 5, 0, 0)", "rule(4, 0, 7, 5, 0)", "rule(4, 0, 7, 1, 3)", "rule(5, 0, 7, 0, 0)").no("isGround(0, 4)");
        run.pass(3).no("isGround(0, 4)").pass(1).yes("isGround(0, 4)").pass(1).yes("isGround(0, 4)");
    }
}
