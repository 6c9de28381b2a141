/** Promise 25, back: all is as in an IMAGE. */
public final class Promise25BackTest {
    public static void main(String[] args) {
        Checks.run(Promise25BackTest.class);
    }

    private static NineTimbers underWay() {
        NineTimbers x = Checks.withRules(Checks.FLEET, "take 0-rot");
        x.seed(4);
        x.days(0, 2);
        Checks.move(x, 3, -1);
        return x;
    }

    private static void allIsAsItWas(Checks c) {
        NineTimbers x = underWay();
        c.due("image", x.image(0), 2);
        int[] before = Seen.of(x);
        x.seed(9);
        Checks.move(x, 3, 1);
        x.days(0, 50);
        c.due("back", x.back(0), 2);
        c.unchanged("as it was", x, before);
    }

    private static void itMayBeGoneBackToAgain(Checks c) {
        NineTimbers x = underWay();
        x.image(0);
        int[] before = Seen.of(x);
        for (int i = 0; i < 3; i++) {
            x.days(0, 3 + i);
            x.seed(i);
            c.due("back", x.back(0), 2);
            c.unchanged("as it was", x, before);
        }
    }

    private static void daysGoOnFromThereAsTheyWould(Checks c) {
        NineTimbers x = underWay();
        x.image(3);
        x.days(0, 6);
        int[] later = Seen.of(x);
        x.days(0, 50);
        x.back(3);
        c.due("days", x.days(0, 6), 8);
        c.unchanged("as before", x, later);
    }

    private static void handsAndMovesOfTheDayComeBack(Checks c) {
        NineTimbers x = Checks.withYard("kinds 1;ship 1;plank 0 9 0;hands 2");
        Checks.move(x, 0, 0);
        x.image(0);
        Checks.move(x, 0, -1);
        c.due("hands", x.count(6), 0);
        x.back(0);
        c.due("hands", x.count(6), 1);
        c.due("moves", x.count(9), 1);
        c.due("in", x.plank(0, 3), 0);
        c.due("one more", x.move(0, -1), true);
        c.due("no more", x.move(0, 0), false);
    }

    private static void lostShipsComeBack(Checks c) {
        NineTimbers x = Checks.withYard("kinds 1;ship 1;plank 0 1 0;plank 0 9 0;voyage 0 0 3 5");
        Checks.move(x, 0, 0);
        x.image(0);
        int[] before = Seen.of(x);
        x.days(-1, 1);
        c.due("lost", x.ship(0, 0), 2);
        x.image(1);
        int[] later = Seen.of(x);
        x.back(0);
        c.unchanged("before the loss", x, before);
        x.back(1);
        c.unchanged("and behind it", x, later);
    }

    private static void theYardComesBackToo(Checks c) {
        NineTimbers x = underWay();
        x.image(2);
        int[] before = Seen.of(x);
        Checks.yard(x, "kinds 4;ship 3 3 3 3;ship 2 2 2 2;ship 1 1 1 1;plank 3 77 2;voyage 2 1 5 6;hands 3");
        x.image(1);
        int[] other = Seen.of(x);
        c.due("back", x.back(2), 2);
        c.unchanged("the first yard", x, before);
        c.due("back", x.back(1), 0);
        c.unchanged("the second yard", x, other);
    }

    private static void aTimeWithoutAYardComesBack(Checks c) {
        NineTimbers x = new NineTimbers();
        x.seed(8);
        x.image(0);
        int[] before = Seen.of(x);
        Checks.yard(x, Checks.FLEET);
        x.seed(9);
        x.days(-1, 5);
        c.due("back", x.back(0), 0);
        c.unchanged("no yard", x, before);
        c.due("unlike", x.unlike(), -1);
        c.due("most", x.most(0), -1);
        c.due("days", x.days(-1, 1), -1);
        c.due("together", x.together(0), 1);
        c.due("a voyage of the yard", x.together(1), -1);
        c.due("a yard again", Checks.yard(x, Checks.FLEET), 2);
    }

    private static void theTapeStays(Checks c) {
        NineTimbers x = Checks.withYard(Checks.FLEET);
        Checks.put(x, "kinds 3");
        x.image(0);
        x.end(0);
        Checks.put(x, "kinds 1;ship 1");
        x.back(0);
        c.due("bytes", x.count(11), 14);
        c.due("text", x.yard(), 1);
        x.back(0);
        c.due("the tape that was read is empty", x.count(11), 0);
    }

    private static void theRulesStay(Checks c) {
        NineTimbers x = Checks.withYard("kinds 1;ship 1;plank 0 5 0;plank 0 9 0;voyage 0 0 1 5");
        x.image(0);
        Checks.rule(x, "take 0-rot");
        x.back(0);
        c.due("rules", x.count(4), 1);
        c.due("by the rule told later", x.days(0, 1), 1);
        c.due("moved", x.plank(1, 3), 0);
        c.due("the next rule's number", Checks.rule(x, "take 1"), 1);
    }

    private static void imagesStay(Checks c) {
        NineTimbers x = Checks.withYard(Checks.FLEET);
        x.image(0);
        x.days(-1, 5);
        x.image(1);
        x.back(0);
        c.due("one made later", x.back(1), 5);
        c.due("and the first", x.back(0), 0);
    }

    private static void neverMade(Checks c) {
        NineTimbers x = underWay();
        x.image(1);
        x.days(0, 1);
        int[] before = Seen.of(x);
        for (int k : new int[] {0, 2, 3}) {
            c.due("back " + k, x.back(k), -1);
        }
        c.unchanged("nothing happens", x, before);
        c.due("back 1", x.back(1), 2);
    }

    private static void withoutIt(Checks c) {
        NineTimbers x = underWay();
        for (int k = 0; k < 4; k++) {
            x.image(k);
        }
        x.days(0, 1);
        int[] before = Seen.of(x);
        c.due("back -1", x.back(-1), -1);
        c.due("back 4", x.back(4), -1);
        for (int far : Checks.FAR) {
            c.due("back " + far, x.back(far), -1);
        }
        c.unchanged("nothing happens", x, before);
        c.due("back 3", x.back(3), 2);
    }

    private static void aNewObjectHasNone(Checks c) {
        NineTimbers x = new NineTimbers();
        for (int k = -1; k <= 4; k++) {
            c.due("back " + k, x.back(k), -1);
        }
    }

    private static void aFaultAndARefusedCallLeaveTheImages(Checks c) {
        NineTimbers x = underWay();
        x.image(0);
        int[] before = Seen.of(x);
        Checks.yard(x, "kinds 3;ship 1 1 1;plank 2 9 0;x");
        x.days(0, 101);
        x.move(9, 9);
        x.ahead(0, 50, 0);
        x.years(0, 20, 50, 50, 0);
        x.back(0);
        c.unchanged("as it was", x, before);
    }
}
