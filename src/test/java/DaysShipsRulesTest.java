/** Promises 1 to 6. */
final class DaysShipsRulesTest {
    private static final Check CHECK = new Check();

    public static void main(String[] args) {
        promise1NewObject();
        promise2Pass();
        promise3Ship();
        promise4Changes();
        promise5Suspend();
        promise6Rule();
        promise6RuleForce();
        CHECK.end();
    }

    private static void promise1NewObject() {
        Detentionbureau x = new Detentionbureau();
        CHECK.noIndex("ofShip(0, 0) of none", () -> x.ofShip(0, 0));
        CHECK.noIndex("ofVisit(0, 0) of none", () -> x.ofVisit(0, 0));
        CHECK.due("ship(0, ..), the first", x.ship(0, 100, 0, 0, 0), 0);
        CHECK.noArgument("built behind the day 0", () -> x.ship(1, 100, 0, 0, 0));
        for (int code = 0; code < 10; code++) {
            CHECK.due("isGround(0, " + code + ") without rules", x.isGround(0, code), false);
        }
        for (int flag = 0; flag < 6; flag++) {
            CHECK.due("list(" + flag + ")", x.list(flag), Detentionbureau.UNLISTED);
        }
        for (int port = 0; port < 4; port++) {
            CHECK.due("missed(" + port + ")", x.missed(port), 0);
        }
        for (int body = 0; body < 4; body++) {
            CHECK.due("suspend(" + body + ", false)", x.suspend(body, false), false);
        }
        CHECK.due("rule, the first", x.rule(0, 0, 1, 0, 0), 0);
        CHECK.due("pass(1)", x.pass(1), 1);
        CHECK.due("another object's day", new Detentionbureau().pass(2), 2);
    }

    private static void promise2Pass() {
        Detentionbureau x = new Detentionbureau();
        for (int days : new int[] {0, -1, 501, Integer.MIN_VALUE, Integer.MAX_VALUE}) {
            CHECK.noArgument("pass(" + days + ")", () -> x.pass(days));
        }
        CHECK.due("pass(1)", x.pass(1), 1);
        CHECK.due("pass(499)", x.pass(499), 500);
        for (int day = 1000; day <= 8500; day += 500) {
            CHECK.due("pass(500)", x.pass(500), day);
        }
        CHECK.due("pass(499)", x.pass(499), 8999);
        CHECK.noState("pass(2) to 9001", () -> x.pass(2));
        CHECK.noArgument("pass(501), both apply", () -> x.pass(501));
        CHECK.due("pass(1) to 9000", x.pass(1), 9000);
        CHECK.noState("pass(1) at 9000", () -> x.pass(1));
    }

    private static void promise3Ship() {
        Detentionbureau x = new Detentionbureau();
        CHECK.noIndex("flag -1", () -> x.ship(0, 100, 0, -1, 0));
        CHECK.noIndex("flag 6", () -> x.ship(0, 100, 0, 6, 0));
        CHECK.noIndex("body -1", () -> x.ship(0, 100, 0, 0, -1));
        CHECK.noIndex("body 4", () -> x.ship(0, 100, 0, 0, 4));
        CHECK.noIndex("flag ahead of built", () -> x.ship(1, 100, 0, 6, 0));
        CHECK.noArgument("built -10001", () -> x.ship(-10001, 100, 0, 0, 0));
        CHECK.noArgument("built 1", () -> x.ship(1, 100, 0, 0, 0));
        CHECK.noArgument("size 99", () -> x.ship(0, 99, 0, 0, 0));
        CHECK.noArgument("size 200001", () -> x.ship(0, 200001, 0, 0, 0));
        CHECK.noArgument("kind -1", () -> x.ship(0, 100, -1, 0, 0));
        CHECK.noArgument("kind 3", () -> x.ship(0, 100, 3, 0, 0));
        x.pass(10);
        CHECK.due("the least", x.ship(-10000, 100, 0, 0, 0), 0);
        CHECK.due("the most", x.ship(10, 200000, 2, 5, 3), 1);
        CHECK.noArgument("built 11 on the day 10", () -> x.ship(11, 100, 0, 0, 0));
        for (int ship = 2; ship < 12; ship++) {
            CHECK.due("ship " + ship, x.ship(0, 1000, 1, 1, 1), ship);
        }
        CHECK.noState("a thirteenth", () -> x.ship(0, 1000, 1, 1, 1));
        CHECK.noIndex("a thirteenth of no flag", () -> x.ship(0, 1000, 1, 6, 1));
        CHECK.noArgument("a thirteenth of no size", () -> x.ship(0, 0, 1, 1, 1));
        CHECK.noIndex("ofShip(12, 0)", () -> x.ofShip(12, 0));
        CHECK.due("ofShip(11, 3)", x.ofShip(11, 3), Detentionbureau.NONE);
    }

    private static void promise4Changes() {
        Detentionbureau x = new Detentionbureau();
        x.ship(0, 100, 0, 0, 0);
        x.ship(0, 100, 0, 0, 0);
        x.suspend(3, true);
        CHECK.due("changes(0, 1, 3)", x.changes(0, 1, 3), 1);
        CHECK.due("points with the suspended body", x.ofShip(0, 0), 1);
        CHECK.due("changes(0, 1, 3), the same again", x.changes(0, 1, 3), 2);
        CHECK.due("changes(1, 5, 0), each ship by itself", x.changes(1, 5, 0), 1);
        CHECK.noIndex("ship -1", () -> x.changes(-1, 0, 0));
        CHECK.noIndex("ship 2", () -> x.changes(2, 0, 0));
        CHECK.noIndex("flag -1", () -> x.changes(0, -1, 0));
        CHECK.noIndex("flag 6", () -> x.changes(0, 6, 0));
        CHECK.noIndex("body -1", () -> x.changes(0, 0, -1));
        CHECK.noIndex("body 4", () -> x.changes(0, 0, 4));
        CHECK.due("points, nothing changed by these", x.ofShip(0, 0), 1);
        CHECK.due("changes(0, 0, 0)", x.changes(0, 0, 0), 3);
        CHECK.due("points with the other body", x.ofShip(0, 0), 0);
    }

    private static void promise5Suspend() {
        Detentionbureau x = new Detentionbureau();
        int ship = Harbour.cargo(x, 0, 0, 2);
        CHECK.due("suspend(2, true)", x.suspend(2, true), false);
        CHECK.due("suspend(2, true) again", x.suspend(2, true), true);
        CHECK.due("all lapse", x.ofShip(ship, 7), 31);
        CHECK.due("suspend(1, true), another", x.suspend(1, true), false);
        CHECK.due("suspend(2, false)", x.suspend(2, false), true);
        CHECK.due("suspend(2, false) again", x.suspend(2, false), false);
        CHECK.due("none lapse", x.ofShip(ship, 7), 0);
        CHECK.noIndex("body -1", () -> x.suspend(-1, true));
        CHECK.noIndex("body 4", () -> x.suspend(4, true));
        CHECK.due("suspend(3, true)", x.suspend(3, true), false);
        CHECK.due("suspend(0, true)", x.suspend(0, true), false);
    }

    private static void promise6Rule() {
        Detentionbureau x = new Detentionbureau();
        CHECK.noArgument("code -1", () -> x.rule(-1, 0, 1, 0, 0));
        CHECK.noArgument("code 10", () -> x.rule(10, 0, 1, 0, 0));
        CHECK.noArgument("size -1", () -> x.rule(0, -1, 1, 0, 0));
        CHECK.noArgument("size 200001", () -> x.rule(0, 200001, 1, 0, 0));
        CHECK.noArgument("kinds 0", () -> x.rule(0, 0, 0, 0, 0));
        CHECK.noArgument("kinds 8", () -> x.rule(0, 0, 8, 0, 0));
        CHECK.noArgument("from -1", () -> x.rule(0, 0, 1, -1, 0));
        CHECK.noArgument("from 9001", () -> x.rule(0, 0, 1, 9001, 0));
        CHECK.noArgument("delay -1", () -> x.rule(0, 0, 1, 0, -1));
        CHECK.noArgument("delay 3001", () -> x.rule(0, 0, 1, 0, 3001));
        CHECK.due("the least", x.rule(0, 0, 1, 0, 0), 0);
        CHECK.due("the most", x.rule(9, 200000, 7, 9000, 3000), 1);
        for (int rule = 2; rule < 20; rule++) {
            CHECK.due("rule " + rule, x.rule(0, 0, 1, 0, 0), rule);
        }
        CHECK.noState("a twenty-first", () -> x.rule(0, 0, 1, 0, 0));
        CHECK.noArgument("a twenty-first of no code", () -> x.rule(10, 0, 1, 0, 0));
    }

    private static void promise6RuleForce() {
        Detentionbureau x = new Detentionbureau();
        int small = x.ship(0, 499, Detentionbureau.CARGO, 0, 0);
        int large = x.ship(0, 500, Detentionbureau.CARGO, 0, 0);
        int tanker = x.ship(0, 500, Detentionbureau.TANKER, 0, 0);
        int passenger = x.ship(0, 500, Detentionbureau.PASSENGER, 0, 0);
        x.rule(3, 500, 5, 0, 0);
        CHECK.due("too small", x.isGround(small, 3), false);
        CHECK.due("just large enough", x.isGround(large, 3), true);
        CHECK.due("not of its kinds", x.isGround(tanker, 3), false);
        CHECK.due("of its kinds", x.isGround(passenger, 3), true);
        CHECK.due("another code", x.isGround(large, 4), false);
        x.rule(4, 0, 2, 10, 5);
        x.pass(9);
        int ahead = x.ship(9, 500, Detentionbureau.TANKER, 0, 0);
        CHECK.due("ahead of the rule's day", x.isGround(ahead, 4), false);
        x.pass(1);
        int onIt = x.ship(10, 500, Detentionbureau.TANKER, 0, 0);
        CHECK.due("built ahead, on the rule's day", x.isGround(ahead, 4), false);
        CHECK.due("built on the rule's day", x.isGround(onIt, 4), true);
        x.pass(4);
        CHECK.due("built ahead, a day ahead of the delay's end", x.isGround(ahead, 4), false);
        x.pass(1);
        CHECK.due("built ahead, with the delay's end", x.isGround(ahead, 4), true);
        CHECK.due("a cargo ship by no rule", x.isGround(large, 4), false);
        x.rule(4, 0, 1, 0, 0);
        CHECK.due("a cargo ship by another rule of that code", x.isGround(large, 4), true);
        x.rule(5, 0, 7, 100, 0);
        x.pass(84);
        CHECK.due("a day ahead, without delay", x.isGround(large, 5), false);
        x.pass(1);
        CHECK.due("on its day, without delay", x.isGround(large, 5), true);
    }
}
