/** Promise 16, same: which SHIP a hull is, by three laws. */
public final class Promise16SameTest {
    public static void main(String[] args) {
        Checks.run(Promise16SameTest.class);
    }

    private static NineTimbers fleet() {
        return Checks.withYard("kinds 2;ship 1 1;ship 1 1;ship 1 1;plank 1 9 2;plank 0 9 1;plank 0 9 0;plank 1 9 0;"
            + "plank 1 9 0;plank 0 1 2;voyage 0 1 3 5;voyage 1 1 2 6");
    }

    private static void law0TheLeastPlankOfKind0(Checks c) {
        NineTimbers x = fleet();
        Checks.move(x, 5, 0);
        c.due("plank 5", x.same(0, 0), 2);
        Checks.move(x, 2, 0);
        c.due("plank 2", x.same(0, 0), 0);
        Checks.move(x, 1, 0);
        c.due("plank 1", x.same(0, 0), 1);
        Checks.move(x, 0, 0);
        c.due("plank 0 is of kind 1", x.same(0, 0), 1);
        Checks.move(x, 1, -1);
        c.due("plank 2 again", x.same(0, 0), 0);
    }

    private static void law0NoneWithoutAPlankOfKind0(Checks c) {
        NineTimbers x = fleet();
        c.due("empty", x.same(0, 0), -1);
        Checks.move(x, 0, 0, 3, 0);
        c.due("kind 1 alone", x.same(0, 0), -1);
        Checks.move(x, 1, 1);
        c.due("one in another hull", x.same(0, 0), -1);
    }

    private static void law1MostOfItsPlanks(Checks c) {
        NineTimbers x = fleet();
        Checks.move(x, 0, 0);
        c.due("one of 2", x.same(1, 0), 2);
        Checks.move(x, 1, 0);
        c.due("one of 1, one of 2: the least", x.same(1, 0), 1);
        Checks.move(x, 5, 0);
        c.due("two of 2", x.same(1, 0), 2);
        Checks.move(x, 3, 0, 4, 0);
        c.due("two of 0, two of 2: the least", x.same(1, 0), 0);
        Checks.move(x, 2, 0);
        c.due("three of 0", x.same(1, 0), 0);
    }

    private static void law1NoneOfAnEmptyHull(Checks c) {
        NineTimbers x = fleet();
        c.due("empty", x.same(1, 1), -1);
        Checks.move(x, 0, 0);
        c.due("one in another hull", x.same(1, 1), -1);
    }

    private static void law2SheHerself(Checks c) {
        NineTimbers x = fleet();
        for (int ship = 0; ship < 3; ship++) {
            c.due("ship " + ship, x.same(2, ship), ship);
        }
        Checks.move(x, 0, 0, 1, 0);
        c.due("with others' planks", x.same(2, 0), 0);
    }

    private static void rottenPlanksDoNotTell(Checks c) {
        NineTimbers x = fleet();
        Checks.move(x, 5, 1, 3, 1);
        c.due("law 0 before", x.same(0, 1), 2);
        c.due("law 1 before", x.same(1, 1), 0);
        x.days(-1, 2);
        c.due("law 0 at sea with a rotten plank", x.same(0, 1), -1);
        x.days(-1, 1);
        c.due("home", x.voyage(1, 4), 2);
        c.due("law 0", x.same(0, 1), -1);
        c.due("law 1", x.same(1, 1), 0);
    }

    private static void aRottenPlankGivesWayToTheNext(Checks c) {
        NineTimbers x = Checks.withYard("kinds 1;ship 1;ship 1;plank 0 1 0;plank 0 9 1;plank 0 9 1;voyage 0 0 1 5");
        Checks.move(x, 0, 0, 1, 0);
        c.due("law 0", x.same(0, 0), 0);
        c.due("law 1, one of each", x.same(1, 0), 0);
        x.days(-1, 2);
        c.due("law 0", x.same(0, 0), 1);
        c.due("law 1", x.same(1, 0), 1);
    }

    private static void lostPlanksDoNotTell(Checks c) {
        NineTimbers x = fleet();
        Checks.move(x, 5, 0, 3, 0, 2, 0);
        x.days(-1, 2);
        c.due("lost", x.ship(0, 0), 2);
        c.due("law 0", x.same(0, 0), -1);
        c.due("law 1", x.same(1, 0), -1);
        c.due("law 2", x.same(2, 0), 0);
    }

    private static void atSeaAsAshore(Checks c) {
        NineTimbers x = Checks.withYard("kinds 1;ship 1;ship 1;plank 0 9 1;voyage 0 0 3 5");
        Checks.move(x, 0, 0);
        x.days(-1, 1);
        c.due("at sea", x.ship(0, 0), 1);
        c.due("law 0", x.same(0, 0), 1);
        c.due("law 1", x.same(1, 0), 1);
    }

    private static void theLastShip(Checks c) {
        NineTimbers x = Checks.withYard("kinds 1" + Checks.times(";ship 1", 6) + Checks.times(";plank 0 9 5", 24));
        Checks.move(x, 23, 5);
        for (int law = 0; law <= 2; law++) {
            c.due("law " + law, x.same(law, 5), 5);
        }
    }

    private static void minus2WithoutThese(Checks c) {
        NineTimbers x = fleet();
        for (int ship = 0; ship < 3; ship++) {
            c.due("law 3", x.same(3, ship), -2);
            c.due("law -1", x.same(-1, ship), -2);
        }
        for (int law = 0; law <= 2; law++) {
            c.due("ship 3", x.same(law, 3), -2);
            c.due("ship -1", x.same(law, -1), -2);
            for (int far : Checks.FAR) {
                c.due("ship " + far, x.same(law, far), -2);
                c.due("law " + far, x.same(far, law), -2);
            }
        }
    }

    private static void byWhatIsAskedNothingChanges(Checks c) {
        NineTimbers x = Checks.withYard(Checks.FLEET);
        Checks.move(x, 0, 0);
        int[] before = Seen.of(x);
        for (int law = -1; law <= 3; law++) {
            x.same(law, 0);
            x.same(law, 2);
        }
        c.unchanged("same", x, before);
    }

    private static void aFullYard(Checks c) {
        NineTimbers x = Checks.withYard(Checks.manyPlanks(9, ""));
        Checks.move(x, 23, 0, 17, 0, 10, 5, 18, 5);
        c.due("law 0: plank 17", x.same(0, 0), 5);
        c.due("law 1", x.same(1, 0), 5);
        c.due("law 0: plank 10", x.same(0, 5), 4);
        c.due("law 1: the least", x.same(1, 5), 0);
        c.due("law 0 of an empty hull", x.same(0, 4), -1);
        c.due("law 1 of an empty hull", x.same(1, 4), -1);
    }
}
