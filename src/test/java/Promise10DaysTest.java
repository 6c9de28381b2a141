/** Promise 10, days: a DAY by a RULE in its three steps, EARNED, and the days that may go by. */
public final class Promise10DaysTest {
    public static void main(String[] args) {
        Checks.run(Promise10DaysTest.class);
    }

    /** Days must be refused and leave all as it was. */
    private static void refused(Checks c, NineTimbers x, int rule, int n) {
        int[] before = Seen.of(x);
        c.due("days(" + rule + "," + n + ")", x.days(rule, n), -1);
        c.unchanged("days(" + rule + "," + n + ")", x, before);
    }

    // ---- which days may go by

    private static void n1To100(Checks c) {
        NineTimbers x = Checks.withYard(Checks.FLEET);
        Checks.move(x, 0, 0, 1, 0, 2, 0);
        refused(c, x, -1, 0);
        refused(c, x, -1, 101);
        refused(c, x, -1, -1);
        c.due("1", x.days(-1, 1), 1);
        c.due("100", x.days(-1, 100), 101);
        for (int far : new int[] {Integer.MIN_VALUE, -100, 101, 102, 200, 356, Integer.MAX_VALUE, Integer.MAX_VALUE - 100}) {
            c.due("n " + far, x.days(-1, far), -1);
        }
        c.due("day", x.count(5), 101);
    }

    private static void theDayIs200AtMost(Checks c) {
        NineTimbers x = Checks.withYard("kinds 1;ship 1;plank 0 5 0");
        c.due("100", x.days(-1, 100), 100);
        c.due("200", x.days(-1, 100), 200);
        refused(c, x, -1, 1);
        refused(c, x, -1, 100);
    }

    private static void oneDayTooMany(Checks c) {
        NineTimbers x = Checks.withYard("kinds 1;ship 1;plank 0 5 0");
        x.days(-1, 100);
        x.days(-1, 1);
        refused(c, x, -1, 100);
        c.due("99 of them", x.days(-1, 99), 200);
        NineTimbers y = Checks.withYard("kinds 1;ship 1;plank 0 5 0");
        y.days(-1, 100);
        y.days(-1, 99);
        refused(c, y, -1, 2);
        c.due("the last", y.days(-1, 1), 200);
        refused(c, y, -1, 1);
    }

    private static void byARuleThatThereIs(Checks c) {
        NineTimbers x = Checks.withRules(Checks.FLEET, "take rot", "take 0-rot");
        refused(c, x, 2, 1);
        refused(c, x, -2, 1);
        c.due("the last rule", x.days(1, 1), 1);
        c.due("the first rule", x.days(0, 1), 2);
        c.due("nobody", x.days(-1, 1), 3);
        for (int far : Checks.FAR) {
            c.due("rule " + far, x.days(far, 1), -1);
        }
        c.due("day", x.count(5), 3);
    }

    private static void noYard(Checks c) {
        NineTimbers x = new NineTimbers();
        Checks.rule(x, "take rot");
        refused(c, x, -1, 1);
        refused(c, x, 0, 1);
        refused(c, x, 0, 100);
    }

    private static void manyDaysAreAsOneByOne(Checks c) {
        NineTimbers x = Checks.withRules(Checks.FLEET, "take rot if rot>=length");
        NineTimbers y = Checks.withRules(Checks.FLEET, "take rot if rot>=length");
        for (int day = 1; day <= 10; day++) {
            c.due("day", x.days(0, 1), day);
        }
        c.due("day", y.days(0, 10), 10);
        c.unchanged("ten at once", y, Seen.of(x));
    }

    private static void aYardWithoutShips(Checks c) {
        NineTimbers x = Checks.withRules("kinds 4", "take rot");
        c.due("day", x.days(0, 100), 100);
        c.due("earned", x.count(7), 0);
    }

    // ---- (1) ships come home, and pay is earned

    private static void homeOnTheDayTheVoyageEnds(Checks c) {
        NineTimbers x = Checks.withYard("kinds 1;ship 1;plank 0 9 0;voyage 0 1 4 101");
        Checks.move(x, 0, 0);
        x.days(-1, 4);
        c.due("at sea still as day 4 begins", x.ship(0, 0), 1);
        c.due("earned", x.count(7), 0);
        c.due("rot of days 1, 2, 3", x.plank(0, 1), 6);
        x.days(-1, 1);
        c.due("home", x.ship(0, 0), 0);
        c.due("earned", x.count(7), 101);
        c.due("no rot on day 4", x.plank(0, 1), 6);
    }

    private static void payInPartsOfSoundPlanksAndOneMore(Checks c) {
        NineTimbers x = Checks.withYard("kinds 1;ship 4;ship 0;ship 0;plank 0 9 0;plank 0 9 1;plank 0 9 1;plank 0 9 2;"
            + "voyage 0 0 2 24");
        Checks.move(x, 0, 0, 1, 0, 2, 0, 3, 0);
        x.days(-1, 3);
        c.due("24 in 5: her plank, her part, 4 left over", x.ship(0, 3), 12);
        c.due("two parts", x.ship(1, 3), 8);
        c.due("one part", x.ship(2, 3), 4);
        c.due("all", x.count(7), 24);
    }

    private static void payThatDividesLeavesNothingOver(Checks c) {
        NineTimbers x = Checks.withYard("kinds 1;ship 1;ship 0;plank 0 9 1;voyage 0 0 1 10");
        Checks.move(x, 0, 0);
        x.days(-1, 2);
        c.due("her part", x.ship(0, 3), 5);
        c.due("the other's", x.ship(1, 3), 5);
    }

    private static void payOfLessThanAPartEachIsHers(Checks c) {
        NineTimbers x = Checks.withYard("kinds 1;ship 3;ship 0;plank 0 9 1;plank 0 9 1;plank 0 9 1;voyage 0 0 1 3;voyage 0 2 3 4");
        Checks.move(x, 0, 0, 1, 0, 2, 0);
        x.days(-1, 2);
        c.due("3 in 4 parts", x.ship(0, 3), 3);
        c.due("none", x.ship(1, 3), 0);
        x.days(-1, 2);
        c.due("4 in 4 parts", x.ship(0, 3), 4);
        c.due("3 of them", x.ship(1, 3), 3);
    }

    private static void pay0AndPay999(Checks c) {
        NineTimbers x = Checks.withYard("kinds 1;ship 1;ship 0;plank 0 9 1;voyage 0 0 1 0;voyage 0 1 2 999");
        Checks.move(x, 0, 0);
        x.days(-1, 2);
        c.due("0", x.count(7), 0);
        c.due("earned all the same", x.voyage(0, 4), 2);
        x.days(-1, 1);
        c.due("999", x.count(7), 999);
        c.due("499 and 1 over", x.ship(0, 3), 500);
        c.due("499", x.ship(1, 3), 499);
    }

    private static void aShipWithoutPlanksHasAll(Checks c) {
        NineTimbers x = Checks.withYard("kinds 1;ship 0;voyage 0 0 1 7;voyage 0 1 2 8");
        x.days(-1, 2);
        c.due("once", x.ship(0, 3), 7);
        x.days(-1, 1);
        c.due("twice", x.ship(0, 3), 15);
    }

    private static void aPlankWithoutRotHasNoPart(Checks c) {
        NineTimbers x = Checks.withYard("kinds 1;ship 1;ship 0;plank 0 2 1;plank 0 9 1;voyage 0 0 2 11");
        Checks.move(x, 0, 0, 1, 0);
        x.days(-1, 3);
        c.due("11 in 2", x.ship(0, 3), 6);
        c.due("one part", x.ship(1, 3), 5);
    }

    private static void ownersAtSeaOrLostHaveTheirParts(Checks c) {
        NineTimbers x = Checks.withYard("kinds 1;ship 2;ship 1;ship 0;plank 0 9 1;plank 0 9 2;plank 0 1 1;voyage 0 0 2 9;"
            + "voyage 1 0 5 9;voyage 2 0 9 9");
        Checks.move(x, 0, 0, 1, 0, 2, 1);
        x.days(-1, 3);
        c.due("lost", x.ship(1, 0), 2);
        c.due("at sea", x.ship(2, 0), 1);
        c.due("the lost one", x.ship(1, 3), 3);
        c.due("the one at sea", x.ship(2, 3), 3);
    }

    private static void severalComeHomeOnADay(Checks c) {
        NineTimbers x = Checks.withYard("kinds 1;ship 1;ship 1;plank 0 9 1;plank 0 9 0;voyage 0 0 2 10;voyage 1 1 2 21");
        Checks.move(x, 0, 0, 1, 1);
        x.days(-1, 3);
        c.due("ship 0", x.ship(0, 3), 5 + 10);
        c.due("ship 1", x.ship(1, 3), 5 + 11);
        c.due("all", x.count(7), 31);
    }

    private static void homeAndOutAgainOnADay(Checks c) {
        NineTimbers x = Checks.withYard("kinds 1;ship 1;plank 0 9 0;voyage 0 0 2 5;voyage 0 2 4 6");
        Checks.move(x, 0, 0);
        x.days(-1, 3);
        c.due("home", x.voyage(0, 4), 2);
        c.due("out again", x.ship(0, 4), 1);
        c.due("rot", x.plank(0, 1), 6);
    }

    private static void whatCameHomeMayServeAnotherOnThatDay(Checks c) {
        NineTimbers x = Checks.withRules("kinds 1;ship 1;ship 1;plank 0 9 0;voyage 0 0 2 5;voyage 1 2 4 6", "take rot");
        x.days(0, 3);
        c.due("out with the same plank", x.voyage(1, 4), 1);
        c.due("in", x.plank(0, 3), 1);
        c.due("paid while it was hers", x.ship(0, 3), 5);
    }

    private static void theFirstAndTheLastVoyageDays(Checks c) {
        NineTimbers x = Checks.withYard("kinds 1;ship 0;voyage 0 0 1 5;voyage 0 98 99 7");
        x.days(-1, 1);
        c.due("day 0", x.voyage(0, 4), 1);
        x.days(-1, 97);
        c.due("not yet", x.voyage(1, 4), 0);
        x.days(-1, 1);
        c.due("out on day 98", x.voyage(1, 4), 1);
        x.days(-1, 1);
        c.due("home on day 99", x.voyage(1, 4), 2);
        c.due("all", x.count(7), 12);
    }

    // ---- (2) voyages begin

    private static void sheSailsIfWholeThoughNobodyMoves(Checks c) {
        NineTimbers x = Checks.withYard("kinds 1;ship 1;ship 1;plank 0 9 0;voyage 0 0 2 5;voyage 1 0 2 5");
        Checks.move(x, 0, 0);
        x.days(-1, 1);
        c.due("whole", x.ship(0, 0), 1);
        c.due("not whole", x.ship(1, 0), 0);
        c.due("moves", x.count(9), 1);
    }

    private static void sheSailsOnItsFirstDayAlone(Checks c) {
        NineTimbers x = Checks.withYard("kinds 1;ship 1;plank 0 9 0;voyage 0 1 5 5");
        x.days(-1, 2);
        c.due("not whole on day 1", x.ship(0, 0), 0);
        Checks.move(x, 0, 0);
        x.days(-1, 1);
        c.due("too late on day 2", x.ship(0, 0), 0);
        NineTimbers y = Checks.withYard("kinds 1;ship 1;plank 0 9 0;voyage 0 1 5 5");
        Checks.move(y, 0, 0);
        y.days(-1, 1);
        c.due("too early on day 0", y.ship(0, 0), 0);
        y.days(-1, 1);
        c.due("on day 1", y.ship(0, 0), 1);
    }

    private static void notIfSheIsAtSeaOrLost(Checks c) {
        NineTimbers x = Checks.withRules("kinds 1;ship 1;ship 1;plank 0 9 0;plank 0 1 0;plank 0 9 0;voyage 0 0 4 5;"
            + "voyage 0 2 3 5;voyage 1 0 4 5;voyage 1 2 3 5", "take 0-rot");
        Checks.move(x, 0, 0, 1, 1);
        x.days(-1, 1);
        x.days(0, 2);
        c.due("at sea on the first", x.ship(0, 4), 0);
        c.due("not begun", x.voyage(1, 4), 0);
        c.due("lost", x.ship(1, 0), 2);
        c.due("not begun", x.voyage(3, 4), 0);
        c.due("no plank was moved to her", x.plank(2, 3), -1);
    }

    private static void theFirstOfTwoOnOneDay(Checks c) {
        String text = "kinds 1;ship 1;plank 0 9 0;voyage 0 0 3 5;voyage 0 0 2 6";
        NineTimbers x = Checks.withYard(text);
        Checks.move(x, 0, 0);
        x.days(-1, 1);
        c.due("the first by numbers", x.ship(0, 4), 0);
        NineTimbers y = Checks.withRules(text, "take 1 if length=2");
        y.days(0, 1);
        c.due("the second, if the first could not be", y.ship(0, 4), 1);
    }

    private static void voyagesByNumbersTakeFirst(Checks c) {
        NineTimbers x = Checks.withRules("kinds 1;ship 1;ship 1;plank 0 9 0;plank 0 8 0;voyage 1 0 2 5;voyage 0 0 2 5", "take rot");
        x.days(0, 1);
        c.due("voyage 0's ship has the first", x.plank(1, 3), 1);
        c.due("voyage 1's the next", x.plank(0, 3), 0);
        c.due("both", x.ship(0, 0) + x.ship(1, 0), 2);
    }

    private static void kindsInTheirOrderAsLongAsHandsAreLeft(Checks c) {
        NineTimbers x = Checks.withRules("kinds 4;ship 1 1 1 1;plank 3 9 0;plank 2 9 0;plank 1 9 0;plank 0 9 0;voyage 0 0 2 5;"
            + "voyage 0 1 2 5;hands 2", "take rot");
        x.days(0, 1);
        c.due("kind 0", x.plank(3, 3), 0);
        c.due("kind 1", x.plank(2, 3), 0);
        c.due("no hand for kind 2", x.plank(1, 3), -1);
        c.due("nor for kind 3", x.plank(0, 3), -1);
        c.due("not whole", x.ship(0, 0), 0);
        x.days(0, 1);
        c.due("the other two on the next day", x.ship(0, 4), 1);
        c.due("moves", x.count(9), 4);
    }

    private static void handsUsedByHandAreNotLeft(Checks c) {
        String text = "kinds 1;ship 1;ship 0;plank 0 9 0;plank 0 9 0;voyage 0 0 2 5;hands ";
        NineTimbers x = Checks.withRules(text + 1, "take plank");
        Checks.move(x, 1, 1);
        x.days(0, 1);
        c.due("none was left", x.plank(0, 3), -1);
        NineTimbers y = Checks.withRules(text + 2, "take plank");
        Checks.move(y, 1, 1);
        y.days(0, 1);
        c.due("one was left", y.plank(0, 3), 0);
    }

    private static void handsAreSharedByAllVoyagesOfADay(Checks c) {
        NineTimbers x = Checks.withRules("kinds 1;ship 2;ship 1;plank 0 9 0;plank 0 9 0;plank 0 9 0;voyage 0 0 2 5;voyage 1 0 2 5;"
            + "hands 2", "take plank");
        x.days(0, 1);
        c.due("the first", x.ship(0, 0), 1);
        c.due("none is left for the second", x.ship(1, 1), 0);
        c.due("hands anew", x.count(6), 2);
    }

    private static void thirtyHandsOnADayAtMost(Checks c) {
        NineTimbers x = Checks.withRules("kinds 1;ship 1;plank 0 9 0;plank 0 9 0;voyage 0 0 2 5", "take plank");
        for (int i = 0; i < 30; i++) {
            Checks.move(x, 1, i % 2 == 0 ? 0 : -1);
        }
        x.days(0, 1);
        c.due("none left", x.count(9), 30);
        c.due("not begun", x.voyage(0, 4), 0);
    }

    private static void onlyAsManyAsSheLacks(Checks c) {
        NineTimbers x = Checks.withRules("kinds 2;ship 2 0;ship 0 0;plank 0 9 0;plank 0 9 0;plank 0 9 0;plank 1 9 0;voyage 0 0 2 5;"
            + "voyage 1 0 2 5", "take plank");
        Checks.move(x, 2, 0);
        x.days(0, 1);
        c.due("one was in her", x.ship(0, 1), 2);
        c.due("one more taken", x.plank(0, 3), 0);
        c.due("no other", x.plank(1, 3), -1);
        c.due("none of kind 1", x.plank(3, 3), -1);
        c.due("none for the other", x.ship(1, 1), 0);
        c.due("moves", x.count(9), 2);
    }

    private static void leastSumOfSeveralLeastNumber(Checks c) {
        NineTimbers x = Checks.withRules("kinds 1;ship 2;plank 0 9 0;plank 0 5 0;plank 0 7 0;plank 0 5 0;voyage 0 0 2 5", "take rot");
        x.days(0, 1);
        c.due("plank 1", x.plank(1, 3), 0);
        c.due("plank 3", x.plank(3, 3), 0);
        c.due("not 0", x.plank(0, 3), -1);
        NineTimbers y = Checks.withRules("kinds 1;ship 2;plank 0 9 0;plank 0 5 0;plank 0 7 0;plank 0 5 0;voyage 0 0 2 5", "take 1");
        y.days(0, 1);
        c.due("plank 0", y.plank(0, 3), 0);
        c.due("plank 1", y.plank(1, 3), 0);
        c.due("not 2", y.plank(2, 3), -1);
    }

    private static void fromTheHeapOrAnotherShipAshore(Checks c) {
        NineTimbers x = Checks.withRules("kinds 1;ship 1;ship 1;plank 0 9 0;plank 0 8 0;voyage 0 0 2 5", "take rot");
        Checks.move(x, 1, 1);
        x.days(0, 1);
        c.due("from ship 1", x.plank(1, 3), 0);
        c.due("not from the heap", x.plank(0, 3), -1);
    }

    private static void notFromAShipWhoseVoyageBeginsOnThisDay(Checks c) {
        String text = "kinds 1;ship 1;ship 2;plank 0 9 0;plank 0 8 0;voyage 0 0 2 5;voyage 1 ";
        NineTimbers x = Checks.withRules(text + "0 2 5", "take rot if from<9");
        Checks.move(x, 1, 1);
        x.days(0, 1);
        c.due("though she can't sail", x.plank(1, 3), 1);
        c.due("not begun", x.voyage(0, 4), 0);
        NineTimbers y = Checks.withRules(text + "1 2 5", "take rot if from<9");
        Checks.move(y, 1, 1);
        y.days(0, 1);
        c.due("if hers begins on another day", y.plank(1, 3), 0);
        NineTimbers z = Checks.withRules("kinds 1;ship 2;ship 1;plank 0 9 0;plank 0 8 0;voyage 0 0 2 5;voyage 1 0 2 5",
            "take rot if from<9");
        Checks.move(z, 1, 0);
        z.days(0, 1);
        c.due("though hers came first and failed", z.plank(1, 3), 0);
    }

    private static void notFromAShipAtSeaOrLost(Checks c) {
        NineTimbers x = Checks.withRules("kinds 1;ship 1;ship 1;ship 1;plank 0 9 0;plank 0 1 0;plank 0 8 0;voyage 0 0 9 5;"
            + "voyage 1 0 9 5;voyage 2 2 3 5", "take rot");
        Checks.move(x, 0, 0, 1, 1, 2, 1);
        x.days(-1, 1);
        c.due("lost", x.ship(1, 0), 2);
        x.days(0, 2);
        c.due("nobody sails", x.voyage(2, 4), 0);
        c.due("at sea", x.plank(0, 3), 0);
        c.due("lost", x.plank(2, 3), 1);
        c.due("moves", x.count(9), 3);
    }

    private static void notAPlankWithoutRot(Checks c) {
        NineTimbers x = Checks.withRules("kinds 1;ship 1;ship 1;plank 0 1 0;voyage 0 0 1 5;voyage 1 2 3 5", "take rot");
        x.days(0, 4);
        c.due("it came home", x.voyage(0, 4), 2);
        c.due("it stays there", x.plank(0, 3), 0);
        c.due("not begun", x.voyage(1, 4), 0);
    }

    private static void notOfAnotherKind(Checks c) {
        NineTimbers x = Checks.withRules("kinds 2;ship 0 1;plank 0 9 0;voyage 0 0 1 5", "take rot");
        x.days(0, 1);
        c.due("heap", x.plank(0, 3), -1);
        c.due("not begun", x.voyage(0, 4), 0);
    }

    private static void movedThoughSheIsNotWholeThen(Checks c) {
        NineTimbers x = Checks.withRules("kinds 2;ship 2 1;plank 0 9 0;plank 1 9 0;voyage 0 0 2 5", "take plank");
        x.days(0, 1);
        c.due("moved", x.ship(0, 1), 2);
        c.due("moves", x.count(9), 2);
        c.due("ashore", x.ship(0, 0), 0);
        c.due("no rot goes", x.plank(0, 1), 9);
    }

    private static void nobodyMovesForShipsWithoutAVoyageOnThisDay(Checks c) {
        NineTimbers x = Checks.withRules("kinds 1;ship 1;ship 1;plank 0 9 0;voyage 0 3 5 5", "take plank");
        x.days(0, 3);
        c.due("moves", x.count(9), 0);
        x.days(0, 1);
        c.due("moves", x.count(9), 1);
    }

    private static void aRuleMovesNothingThatAVoyageBegunHolds(Checks c) {
        NineTimbers x = Checks.withRules("kinds 1;ship 1;ship 1;plank 0 9 0;voyage 0 0 2 5;voyage 1 0 2 5", "take plank");
        x.days(0, 1);
        c.due("the first is at sea with it", x.plank(0, 3), 0);
        c.due("the second has none", x.ship(1, 0), 0);
    }

    // ---- (3) planks rot at sea

    private static void eachSoundPlankAtSeaHas1LessRot(Checks c) {
        NineTimbers x = Checks.withYard("kinds 2;ship 1 0;ship 1 0;plank 0 9 0;plank 0 8 1;plank 1 7 0;plank 0 6 0;plank 0 5 0;"
            + "voyage 0 0 3 5");
        Checks.move(x, 0, 0, 1, 0, 2, 0, 3, 1);
        x.days(-1, 2);
        int[] due = {7, 6, 5, 6, 5};
        for (int plank = 0; plank < due.length; plank++) {
            c.due("plank " + plank, x.plank(plank, 1), due[plank]);
        }
    }

    private static void noRotLeftOnTheLastDayIsNoLoss(Checks c) {
        for (int days = 1; days <= 4; days++) {
            NineTimbers x = Checks.withYard("kinds 1;ship 1;plank 0 " + days + " 0;voyage 0 2 " + (2 + days) + " 10");
            Checks.move(x, 0, 0);
            x.days(-1, 2 + days);
            c.due("at sea still", x.ship(0, 0), 1);
            c.due("rot", x.plank(0, 1), 0);
            x.days(-1, 1);
            c.due("home", x.voyage(0, 4), 2);
            c.due("all hers", x.ship(0, 3), 10);
        }
    }

    private static void noRotLeftADayEarlierIsALoss(Checks c) {
        for (int days = 2; days <= 5; days++) {
            NineTimbers x = Checks.withYard("kinds 1;ship 1;plank 0 " + (days - 1) + " 0;voyage 0 2 " + (2 + days) + " 10");
            Checks.move(x, 0, 0);
            x.days(-1, days);
            c.due("not yet lost", x.ship(0, 0), days == 2 ? 0 : 1);
            x.days(-1, 1);
            c.due("lost", x.ship(0, 0), 2);
            c.due("her voyage", x.voyage(0, 4), 3);
            x.days(-1, 9);
            c.due("earns nothing", x.count(7), 0);
        }
    }

    private static void rot99LastsTheLongestVoyage(Checks c) {
        NineTimbers x = Checks.withYard("kinds 1;ship 1;ship 1;plank 0 99 0;plank 0 98 0;voyage 0 0 99 5;voyage 1 0 99 7");
        Checks.move(x, 0, 0, 1, 1);
        x.days(-1, 98);
        c.due("98 days", x.plank(0, 1), 1);
        c.due("one less is too few", x.ship(1, 0), 2);
        x.days(-1, 2);
        c.due("earned", x.count(7), 5);
    }

    private static void onePlankTooManyMayLoseHer(Checks c) {
        NineTimbers x = Checks.withYard("kinds 2;ship 1 0;plank 0 9 0;plank 1 1 0;voyage 0 0 3 5");
        Checks.move(x, 0, 0, 1, 0);
        x.days(-1, 1);
        c.due("of a kind she need not have", x.ship(0, 0), 2);
    }

    private static void aPlankThatWasRottenBeforeLosesNobody(Checks c) {
        NineTimbers x = Checks.withYard("kinds 1;ship 1;plank 0 1 0;plank 0 9 0;voyage 0 0 1 5;voyage 0 2 5 7");
        Checks.move(x, 0, 0, 1, 0);
        x.days(-1, 4);
        c.due("rotten in her", x.plank(0, 3), 0);
        c.due("rot stays 0", x.plank(0, 1), 0);
        c.due("at sea", x.ship(0, 0), 1);
        x.days(-1, 2);
        c.due("earned", x.count(7), 12);
    }

    private static void withHerAllPlanksInHerAreLost(Checks c) {
        NineTimbers x = Checks.withYard("kinds 1;ship 1;ship 1;plank 0 1 0;plank 0 9 1;plank 0 2 0;plank 0 9 0;voyage 0 0 1 5;"
            + "voyage 0 2 5 7");
        Checks.move(x, 0, 0, 1, 0, 2, 0, 3, 1);
        x.days(-1, 3);
        c.due("lost", x.ship(0, 0), 2);
        for (int plank = 0; plank < 3; plank++) {
            c.due("plank " + plank + " lost", x.plank(plank, 4), 1);
            c.due("in her", x.plank(plank, 3), 0);
        }
        c.due("another's is not", x.plank(3, 4), 0);
        c.due("what she earned before stays", x.count(7), 5);
    }

    private static void eachShipForItself(Checks c) {
        NineTimbers x = Checks.withYard("kinds 1;ship 1;ship 1;ship 1;plank 0 1 0;plank 0 9 0;plank 0 1 0;voyage 0 0 3 5;"
            + "voyage 1 0 3 5;voyage 2 0 1 5");
        Checks.move(x, 0, 0, 1, 1, 2, 2);
        x.days(-1, 1);
        c.due("lost", x.ship(0, 0), 2);
        c.due("at sea", x.ship(1, 0), 1);
        c.due("at sea, home on the next day", x.ship(2, 0), 1);
    }

    private static void noRotGoesAshore(Checks c) {
        NineTimbers x = Checks.withYard("kinds 1;ship 1;plank 0 1 0;plank 0 1 0");
        Checks.move(x, 0, 0);
        x.days(-1, 100);
        c.due("in a ship", x.plank(0, 1), 1);
        c.due("on the heap", x.plank(1, 1), 1);
    }

    private static void wholeYardByARule(Checks c) {
        NineTimbers x = Checks.withRules(Checks.FLEET, "take rot if rot >= length");
        c.due("a day", x.days(0, 1), 1);
        int[] in = {0, 0, 0, -1};
        for (int plank = 0; plank < 4; plank++) {
            c.due("plank " + plank, x.plank(plank, 3), in[plank]);
        }
        c.due("moves", x.count(9), 3);
        c.due("days", x.days(0, 3), 4);
        c.due("voyage 1 lacked planks", x.voyage(1, 4), 0);
        c.due("voyage 0", x.voyage(0, 4), 2);
        c.due("100 in 3, as plank 1 rotted: ship 0", x.ship(0, 3), 67);
        c.due("ship 1", x.ship(1, 3), 33);
        c.due("days", x.days(0, 2), 6);
        c.due("voyage 2", x.voyage(2, 4), 1);
        c.due("taken from ship 0", x.plank(0, 3), 1);
        c.due("taken from the heap", x.plank(3, 3), 1);
        c.due("days", x.days(0, 2), 8);
        c.due("30, all planks rotted", x.ship(1, 3), 63);
    }

    private static void aFullYardOfVoyages(Checks c) {
        NineTimbers x = Checks.withRules(Checks.manyVoyages(), "take plank");
        x.days(0, 1);
        for (int ship = 0; ship < 6; ship++) {
            c.due("plank " + ship, x.plank(ship, 3), ship);
        }
        c.due("days", x.days(0, 5), 6);
        c.due("earned", x.count(7), 36);
        c.due("moves", x.count(9), 6);
        c.due("rot of ship 0's", x.plank(0, 1), 6);
        c.due("rot of ship 1's", x.plank(1, 1), 7);
        c.due("rot of ship 5's", x.plank(5, 1), 6);
        c.due("owed to 5: 6 in 2 and 8 in 2", x.ship(5, 3), 14);
    }

    private static void aFullYardOfPlanks(Checks c) {
        NineTimbers x = Checks.withRules(Checks.manyPlanks(2, ";voyage 5 0 4 9;voyage 4 0 2 8"), "take 0-plank");
        x.days(0, 1);
        c.due("the last plank", x.plank(23, 3), 5);
        c.due("the one ahead", x.plank(22, 3), 4);
        c.due("no other", x.count(8), 22);
        x.days(0, 2);
        c.due("lost", x.ship(5, 0), 2);
        c.due("lost", x.plank(23, 4), 1);
        c.due("home", x.voyage(1, 4), 2);
        c.due("earned", x.count(7), 8);
    }

    private static void fromAShipAshoreInAFullYard(Checks c) {
        NineTimbers x = Checks.withRules("kinds 1;ship 1;ship 1;plank 0 9 0;voyage 0 0 1 1" + Checks.times(";voyage 1 5 6 1", 7),
            "take plank");
        Checks.move(x, 0, 1);
        x.days(0, 1);
        c.due("taken", x.plank(0, 3), 0);
        NineTimbers y = Checks.withRules("kinds 1;ship 1;ship 2;plank 0 9 0;voyage 0 0 1 1" + Checks.times(";voyage 1 5 6 1", 6)
            + ";voyage 1 0 2 1", "take plank");
        Checks.move(y, 0, 1);
        y.days(0, 1);
        c.due("the last voyage of hers begins on this day", y.plank(0, 3), 1);
    }
}
