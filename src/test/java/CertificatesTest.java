/** Promises 7 and 8. */
final class CertificatesTest {
    private static final Check CHECK = new Check();
    private static final int CLASS = Detentionbureau.CLASS;
    private static final int SAFETY = Detentionbureau.SAFETY;
    private static final int RADIO = Detentionbureau.RADIO;
    private static final int LINE = Detentionbureau.LINE;
    private static final int OIL = Detentionbureau.OIL;

    public static void main(String[] args) {
        promise7Wrong();
        promise7Term();
        promise7HangsOn();
        promise7Suspended();
        promise7LapsedForGood();
        promise8Wrong();
        promise8Round();
        promise8AheadOfTheLastDay();
        promise8AllAnniversaries();
        promise8LapsedMeanwhile();
        CHECK.end();
    }

    private static Detentionbureau withShip() {
        Detentionbureau x = new Detentionbureau();
        x.ship(0, 100, 0, 0, 0);
        return x;
    }

    private static void promise7Wrong() {
        Detentionbureau x = withShip();
        CHECK.noIndex("ship -1", () -> x.issue(-1, CLASS, 1));
        CHECK.noIndex("ship 1, of no family", () -> x.issue(1, 5, 1));
        CHECK.noArgument("family -1", () -> x.issue(0, -1, 1));
        CHECK.noArgument("family 5", () -> x.issue(0, 5, 1));
        CHECK.noArgument("term 0", () -> x.issue(0, CLASS, 0));
        CHECK.noArgument("term 1826", () -> x.issue(0, CLASS, 1826));
        CHECK.noArgument("term 0 of what hangs on none", () -> x.issue(0, SAFETY, 0));
        CHECK.due("none issued by these", x.ofShip(0, 7), 31);
    }

    private static void promise7Term() {
        Detentionbureau x = withShip();
        x.pass(7);
        CHECK.due("term 1", x.issue(0, CLASS, 1), 8);
        CHECK.due("term 1825", x.issue(0, OIL, 1825), 1832);
        CHECK.due("both are there", x.ofShip(0, 7), 14);
        x.pass(1);
        CHECK.due("on the last day", x.ofShip(0, 7), 14);
        x.pass(1);
        CHECK.due("behind the last day", x.ofShip(0, 7), 15);
        CHECK.due("in place of one that has lapsed", x.issue(0, CLASS, 100), 109);
        CHECK.due("in place of one that has not", x.issue(0, CLASS, 2), 11);
        x.pass(3);
        CHECK.due("the last one is what stands", x.ofShip(0, 7), 15);
    }

    private static void promise7HangsOn() {
        Detentionbureau x = withShip();
        CHECK.noState("SAFETY without CLASS", () -> x.issue(0, SAFETY, 9));
        CHECK.noState("LINE without CLASS", () -> x.issue(0, LINE, 9));
        CHECK.noState("RADIO without SAFETY", () -> x.issue(0, RADIO, 9));
        CHECK.due("OIL hangs on none", x.issue(0, OIL, 9), 9);
        CHECK.due("CLASS hangs on none", x.issue(0, CLASS, 5), 5);
        CHECK.noState("RADIO without SAFETY, with CLASS", () -> x.issue(0, RADIO, 9));
        x.issue(0, SAFETY, 9);
        x.issue(0, RADIO, 9);
        x.issue(0, LINE, 9);
        x.pass(5);
        CHECK.due("all are good", x.ofShip(0, 7), 0);
        x.pass(1);
        CHECK.due("what hangs on CLASS lapses with it", x.ofShip(0, 7), 15);
        CHECK.noState("SAFETY on a CLASS that has lapsed", () -> x.issue(0, SAFETY, 9));
        CHECK.noState("RADIO on a SAFETY that has lapsed with CLASS", () -> x.issue(0, RADIO, 9));
        x.issue(0, CLASS, 100);
        CHECK.due("and is good again with it", x.ofShip(0, 7), 0);
        x.issue(0, SAFETY, 1);
        x.pass(2);
        CHECK.due("RADIO lapses with SAFETY, LINE does not", x.ofShip(0, 7), 6);
        x.issue(0, SAFETY, 100);
        CHECK.due("RADIO is good again with SAFETY", x.ofShip(0, 7), 0);
    }

    private static void promise7Suspended() {
        Detentionbureau x = withShip();
        Harbour.certify(x, 0);
        x.changes(0, 0, 1);
        x.issue(0, LINE, 300);
        x.suspend(0, true);
        CHECK.due("by the body that issued, LINE by CLASS", x.ofShip(0, 7), 31);
        CHECK.due("CLASS by another body", x.issue(0, CLASS, 300), 300);
        CHECK.due("LINE is good again", x.ofShip(0, 7), 22);
        x.suspend(1, true);
        CHECK.due("the body of now issued CLASS and LINE", x.ofShip(0, 7), 31);
        CHECK.noState("issue by a suspended body", () -> x.issue(0, OIL, 1));
        CHECK.noArgument("term 0 by a suspended body", () -> x.issue(0, OIL, 0));
        x.suspend(1, false);
        x.suspend(0, false);
        CHECK.due("for so long", x.ofShip(0, 7), 0);
        x.changes(0, 0, 2);
        x.suspend(2, true);
        CHECK.due("the body of now issued none of them", x.ofShip(0, 7), 0);
        CHECK.noState("issue by the body of now", () -> x.issue(0, CLASS, 1));
    }

    private static void promise7LapsedForGood() {
        Detentionbureau x = withShip();
        x.issue(0, CLASS, 1000);
        x.issue(0, OIL, 10);
        x.suspend(0, true);
        x.pass(456);
        x.suspend(0, false);
        CHECK.due("lapsed meanwhile, for good", x.ofShip(0, 7), 31);
        CHECK.noState("endorse what has lapsed", () -> x.endorse(0, CLASS));
        x.issue(0, CLASS, 10);
        CHECK.due("until it is issued anew", x.ofShip(0, 7), 30);
    }

    private static void promise8Wrong() {
        Detentionbureau x = withShip();
        CHECK.noIndex("ship -1", () -> x.endorse(-1, CLASS));
        CHECK.noIndex("ship 1, of no family", () -> x.endorse(1, 5));
        CHECK.noArgument("family -1", () -> x.endorse(0, -1));
        CHECK.noArgument("family 5", () -> x.endorse(0, 5));
        CHECK.noState("there is none", () -> x.endorse(0, CLASS));
        x.issue(0, CLASS, 300);
        x.pass(290);
        CHECK.noState("it has no anniversary", () -> x.endorse(0, CLASS));
        x.pass(11);
        CHECK.noState("it has lapsed", () -> x.endorse(0, CLASS));
    }

    private static void promise8Round() {
        Detentionbureau x = withShip();
        x.pass(10);
        x.issue(0, CLASS, 1825);
        x.issue(0, OIL, 1825);
        x.pass(274);
        CHECK.noState("91 days ahead", () -> x.endorse(0, CLASS));
        x.pass(1);
        CHECK.due("90 days ahead", x.endorse(0, CLASS), 1);
        CHECK.noState("once for each", () -> x.endorse(0, CLASS));
        x.pass(180);
        CHECK.noState("once for each, 90 days behind", () -> x.endorse(0, CLASS));
        CHECK.due("none has lapsed yet", x.ofShip(0, 7), 14);
        CHECK.due("90 days behind", x.endorse(0, OIL), 1);
        x.pass(1);
        CHECK.due("both were endorsed", x.ofShip(0, 7), 14);
        CHECK.noState("between two", () -> x.endorse(0, OIL));
        x.pass(184);
        CHECK.due("the second one", x.endorse(0, OIL), 2);
        x.pass(180);
        CHECK.due("up to 90 days behind", x.ofShip(0, 7), 14);
        x.pass(1);
        CHECK.due("from the next day on", x.ofShip(0, 7), 15);
        CHECK.noState("too late", () -> x.endorse(0, CLASS));
        x.issue(0, CLASS, 1825);
        x.pass(365);
        CHECK.due("issued anew it has none from before", x.endorse(0, CLASS), 1);
    }

    private static void promise8AheadOfTheLastDay() {
        Detentionbureau x = withShip();
        x.pass(400);
        x.issue(0, CLASS, 365);
        x.issue(0, OIL, 366);
        x.issue(0, LINE, 730);
        x.pass(365);
        CHECK.noState("an anniversary with the last day is none", () -> x.endorse(0, CLASS));
        CHECK.due("one ahead of the last day", x.endorse(0, OIL), 1);
        CHECK.due("one of two years", x.endorse(0, LINE), 1);
        x.issue(0, CLASS, 1000);
        x.pass(300);
        CHECK.due("CLASS", x.endorse(0, CLASS), 1);
        CHECK.noState("the end of two years is no anniversary", () -> x.endorse(0, LINE));
        x.pass(65);
        CHECK.due("LINE on its last day", x.ofShip(0, 7), 22);
        x.pass(1);
        CHECK.due("LINE behind its last day", x.ofShip(0, 7), 30);
    }

    private static void promise8AllAnniversaries() {
        Detentionbureau x = withShip();
        x.issue(0, CLASS, 1825);
        for (int year = 1; year <= 4; year++) {
            x.pass(365);
            CHECK.due("endorse in the year " + year, x.endorse(0, CLASS), year);
        }
        x.pass(365);
        CHECK.noState("the last day is no anniversary", () -> x.endorse(0, CLASS));
        CHECK.due("the last day", x.ofShip(0, 7), 30);
        x.pass(1);
        CHECK.due("behind the last day", x.ofShip(0, 7), 31);
    }

    private static void promise8LapsedMeanwhile() {
        Detentionbureau x = withShip();
        x.issue(0, CLASS, 360);
        x.issue(0, SAFETY, 700);
        x.pass(361);
        CHECK.noState("lapsed with the one on which it hangs", () -> x.endorse(0, SAFETY));
        x.issue(0, CLASS, 360);
        CHECK.due("good again", x.endorse(0, SAFETY), 1);
        x.suspend(0, true);
        CHECK.noState("by a suspended body", () -> x.endorse(0, SAFETY));
    }
}
