/** Promise 1, a new object: no YARD, no RULES; and every call ahead of the first YARD. */
public final class Promise01NewObjectTest {
    public static void main(String[] args) {
        Checks.run(Promise01NewObjectTest.class);
    }

    private static void noneIsMinusOne(Checks c) {
        c.due("NONE", NineTimbers.NONE, -1);
    }

    private static void noYard(Checks c) {
        NineTimbers x = new NineTimbers();
        c.due("unlike", x.unlike(), -1);
        for (int what = 0; what <= 3; what++) {
            c.due("count(" + what + ")", x.count(what), 0);
        }
    }

    private static void noRules(Checks c) {
        NineTimbers x = new NineTimbers();
        c.due("rules", x.count(4), 0);
        Checks.yard(x, "kinds 1");
        c.due("days by rule 0", x.days(0, 1), -1);
        c.due("ahead by rule 0", x.ahead(0, 1, 0), -1);
        c.due("years by rule 0", x.years(0, 1, 1, 0, 0), -1);
    }

    private static void nothingElse(Checks c) {
        NineTimbers x = new NineTimbers();
        for (int what = 5; what <= 11; what++) {
            c.due("count(" + what + ")", x.count(what), 0);
        }
        for (int k = 0; k < 4; k++) {
            c.due("back(" + k + ")", x.back(k), -1);
        }
    }

    private static void eachCallAheadOfAYardAnswersAsWithoutThese(Checks c) {
        NineTimbers x = new NineTimbers();
        for (int i = -1; i <= 1; i++) {
            c.due("ship(" + i + ",0)", x.ship(i, 0), -1);
            c.due("plank(" + i + ",0)", x.plank(i, 0), -2);
            c.due("voyage(" + i + ",0)", x.voyage(i, 0), -1);
            c.due("move(0," + i + ")", x.move(0, i), false);
            c.due("days(" + i + ",1)", x.days(i, 1), -1);
            c.due("lacks(" + i + ",0)", x.lacks(i, 0), -1);
            c.due("together(" + i + ")", x.together(i), i == 0 ? 1 : -1);
            c.due("cut(" + i + ",0)", x.cut(i, 0), i == 0 ? -2 : -1);
            c.due("cut(" + i + ",1)", x.cut(i, 1), i == 0 ? -2 : -1);
            c.due("most(" + i + ")", x.most(i), -1);
            c.due("willDo(" + i + ")", x.willDo(i), -1);
            c.due("same(2," + i + ")", x.same(2, i), -2);
            c.due("wreck(" + i + ",-1)", x.wreck(i, -1), -2);
            c.due("wreck(0," + i + ")", x.wreck(0, i), -2);
            c.due("dealt(" + i + ")", x.dealt(i), -1);
            c.due("ahead(-1,0," + i + ")", x.ahead(-1, 0, i), -1);
            c.due("years(-1,1,1,0," + i + ")", x.years(-1, 1, 1, 0, i), -1);
        }
        c.due("unlike()", x.unlike(), -1);
    }

    private static void callsAheadOfAYardChangeNothing(Checks c) {
        NineTimbers x = new NineTimbers();
        Checks.rule(x, "take rot");
        x.seed(5);
        x.feed(1, 2, 3, 4, 5);
        int[] before = Seen.of(x);
        x.move(0, 0);
        x.move(0, -1);
        x.days(-1, 1);
        x.days(0, 1);
        x.together(0);
        x.cut(0, 0);
        x.most(0);
        x.willDo(0);
        x.unlike();
        x.dealt(0);
        x.ahead(0, 1, 0);
        x.years(0, 1, 1, 0, 0);
        x.back(0);
        c.unchanged("without a YARD", x, before);
    }

    private static void aRuleAloneIsNoYard(Checks c) {
        NineTimbers x = new NineTimbers();
        c.due("rule", Checks.rule(x, "take rot"), 0);
        c.due("days", x.days(0, 1), -1);
        c.due("ahead", x.ahead(0, 1, 0), -1);
        c.due("years", x.years(0, 1, 1, 0, 0), -1);
        c.due("day", x.count(5), 0);
    }

    private static void aYardWithAFaultIsNoYard(Checks c) {
        NineTimbers x = new NineTimbers();
        c.due("a fault behind a ship", Checks.yard(x, "kinds 2;ship 1 1;plank 0 5 0;x"), Checks.fault(29, 0));
        for (int what = 0; what <= 11; what++) {
            c.due("count(" + what + ")", x.count(what), 0);
        }
        c.due("ship", x.ship(0, 0), -1);
        c.due("plank", x.plank(0, 0), -2);
        c.due("unlike", x.unlike(), -1);
        c.due("days", x.days(-1, 1), -1);
    }

    private static void objectsShareNothing(Checks c) {
        NineTimbers x = Checks.withRules(Checks.FLEET, "take rot");
        x.seed(9);
        x.image(0);
        x.feed(1, 2, 3, 4, 5);
        NineTimbers y = new NineTimbers();
        for (int what = 0; what <= 11; what++) {
            c.due("count(" + what + ")", y.count(what), 0);
        }
        c.due("back", y.back(0), -1);
    }
}
