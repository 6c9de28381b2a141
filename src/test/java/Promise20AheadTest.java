/** Promise 20, ahead: what n DAYS by a RULE would bring. */
public final class Promise20AheadTest {
    public static void main(String[] args) {
        Checks.run(Promise20AheadTest.class);
    }

    private static void earnedInTheseDays(Checks c) {
        NineTimbers x = Checks.withRules(Checks.FLEET, "take rot if rot >= length");
        Checks.move(x, 0, 0);
        c.due("none", x.ahead(0, 0, 0), 0);
        c.due("three days", x.ahead(0, 3, 0), 0);
        c.due("four days", x.ahead(0, 4, 0), 100);
        c.due("a hundred days", x.ahead(0, 100, 0), 130);
        x.days(0, 4);
        c.due("earned so far", x.count(7), 100);
        c.due("only what comes", x.ahead(0, 100, 0), 30);
        x.days(0, 10);
        c.due("nothing more", x.ahead(0, 100, 0), 0);
    }

    private static void shipsThatAreLostThenAsBits(Checks c) {
        NineTimbers x = Checks.withRules("kinds 1;ship 0;ship 1;ship 1;plank 0 2 0;plank 0 1 0;voyage 1 0 3 5;voyage 2 4 6 7",
            "take 0-rot");
        c.due("now", x.ahead(0, 0, 1), 0);
        c.due("one day", x.ahead(0, 1, 1), 0);
        c.due("two days", x.ahead(0, 2, 1), 2);
        c.due("four days", x.ahead(0, 4, 1), 2);
        c.due("five days", x.ahead(0, 5, 1), 6);
        c.due("nobody moves", x.ahead(-1, 100, 1), 0);
        x.days(0, 2);
        c.due("lost before, and still", x.ahead(0, 0, 1), 2);
        c.due("both", x.ahead(0, 100, 1), 6);
    }

    private static void movesInTheseDays(Checks c) {
        NineTimbers x = Checks.withRules(Checks.FLEET, "take rot if rot >= length");
        Checks.move(x, 0, 0);
        c.due("none", x.ahead(0, 0, 2), 0);
        c.due("one day", x.ahead(0, 1, 2), 2);
        c.due("a hundred days", x.ahead(0, 100, 2), 4);
        c.due("nobody moves", x.ahead(-1, 100, 2), 0);
        x.days(0, 4);
        c.due("only those that come", x.ahead(0, 100, 2), 2);
    }

    private static void handsUsedOnThisDayAreNotLeft(Checks c) {
        NineTimbers x = Checks.withRules("kinds 1;ship 1;ship 0;plank 0 9 0;plank 0 9 0;voyage 0 0 1 5;hands 1", "take plank");
        c.due("a hand", x.ahead(0, 2, 0), 5);
        Checks.move(x, 1, 1);
        c.due("no hand", x.ahead(0, 2, 0), 0);
        c.due("no move", x.ahead(0, 2, 2), 0);
    }

    private static void sameAsDaysThatGoBy(Checks c) {
        for (int n = 1; n <= 10; n++) {
            NineTimbers x = Checks.withRules(Checks.FLEET, "take 0-rot");
            int earned = x.ahead(0, n, 0);
            int lost = x.ahead(0, n, 1);
            int moves = x.ahead(0, n, 2);
            x.days(0, n);
            c.due("earned in " + n, x.count(7), earned);
            c.due("lost in " + n, (x.ship(0, 0) == 2 ? 1 : 0) + (x.ship(1, 0) == 2 ? 2 : 0), lost);
            c.due("moves in " + n, x.count(9), moves);
        }
    }

    private static void n0To100(Checks c) {
        NineTimbers x = Checks.withYard("kinds 1;ship 0;voyage 0 98 99 7");
        c.due("n -1", x.ahead(-1, -1, 0), -1);
        c.due("n 0", x.ahead(-1, 0, 0), 0);
        c.due("n 99: up to day 98", x.ahead(-1, 99, 0), 0);
        c.due("n 100: day 99, too", x.ahead(-1, 100, 0), 7);
        c.due("n 101", x.ahead(-1, 101, 0), -1);
        c.due("n least", x.ahead(-1, Integer.MIN_VALUE, 0), -1);
        c.due("n most", x.ahead(-1, Integer.MAX_VALUE, 0), -1);
    }

    private static void lateDays(Checks c) {
        NineTimbers x = Checks.withRules("kinds 1;ship 0;voyage 0 98 99 7", "take rot");
        x.days(-1, 98);
        c.due("one day", x.ahead(0, 1, 0), 0);
        c.due("two days", x.ahead(0, 2, 0), 7);
        x.days(-1, 100);
        c.due("day", x.count(5), 198);
        c.due("beyond day 200", x.ahead(0, 100, 0), 0);
        x.days(-1, 2);
        c.due("on day 200", x.ahead(0, 1, 2), 0);
        c.due("day", x.count(5), 200);
    }

    private static void noneWithoutTheRule(Checks c) {
        NineTimbers x = Checks.withRules(Checks.FLEET, "take rot");
        for (int what = 0; what <= 2; what++) {
            c.due("rule 1", x.ahead(1, 1, what), -1);
            c.due("rule -2", x.ahead(-2, 1, what), -1);
            c.due("rule 0", x.ahead(0, 0, what), 0);
            c.due("rule NONE", x.ahead(-1, 0, what), 0);
        }
        for (int far : Checks.FAR) {
            c.due("rule " + far, x.ahead(far, 1, 0), -1);
        }
    }

    private static void noneWithoutTheWhat(Checks c) {
        NineTimbers x = Checks.withRules(Checks.FLEET, "take rot");
        c.due("what 3", x.ahead(0, 1, 3), -1);
        c.due("what -1", x.ahead(0, 1, -1), -1);
        for (int far : Checks.FAR) {
            c.due("what " + far, x.ahead(0, 1, far), -1);
        }
    }

    private static void noneWithoutAYard(Checks c) {
        NineTimbers x = new NineTimbers();
        Checks.rule(x, "take rot");
        for (int what = 0; what <= 2; what++) {
            c.due("by a rule", x.ahead(0, 0, what), -1);
            c.due("by none", x.ahead(-1, 1, what), -1);
        }
    }

    private static void byWhatIsAskedNothingChanges(Checks c) {
        NineTimbers x = Checks.withRules(Checks.FLEET, "take 0-rot");
        Checks.move(x, 0, 0);
        x.seed(9);
        int[] before = Seen.of(x);
        x.ahead(0, 100, 0);
        x.ahead(0, 3, 1);
        x.ahead(0, 1, 2);
        x.ahead(0, 101, 0);
        c.unchanged("ahead", x, before);
        x.days(0, 4);
        int[] later = Seen.of(x);
        x.ahead(0, 100, 0);
        c.unchanged("ahead of later days", x, later);
    }

    private static void imagesStayAsTheyWere(Checks c) {
        NineTimbers x = Checks.withRules(Checks.FLEET, "take 0-rot");
        x.days(0, 1);
        int[] before = Seen.of(x);
        x.image(0);
        x.ahead(0, 100, 0);
        c.due("back", x.back(0), 1);
        c.unchanged("the image", x, before);
    }

    private static void aFullYard(Checks c) {
        NineTimbers x = Checks.withRules(Checks.manyVoyages(), "take plank");
        c.due("earned", x.ahead(0, 100, 0), 36);
        c.due("lost", x.ahead(0, 100, 1), 0);
        c.due("moves", x.ahead(0, 100, 2), 6);
        NineTimbers y = Checks.withRules(Checks.manyPlanks(1, ";voyage 5 0 9 5;voyage 3 0 9 5;voyage 0 0 1 7"), "take 0-plank");
        c.due("earned", y.ahead(0, 100, 0), 7);
        c.due("lost", y.ahead(0, 100, 1), 40);
        c.due("moves", y.ahead(0, 100, 2), 3);
    }
}
