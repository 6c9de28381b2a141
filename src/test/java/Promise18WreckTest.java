/** Promise 18, wreck: what a wreck takes from whom. */
public final class Promise18WreckTest {
    public static void main(String[] args) {
        Checks.run(Promise18WreckTest.class);
    }

    private static NineTimbers fleet() {
        return Checks.withYard("kinds 2;ship 0 0;ship 0 0;ship 0 0;plank 1 9 2;plank 0 9 1;plank 1 9 0;plank 1 9 0;plank 0 1 2;"
            + "voyage 1 0 1 5;voyage 0 0 3 5");
    }

    private static void howManyOfEachOwner(Checks c) {
        NineTimbers x = fleet();
        Checks.move(x, 0, 1, 1, 1, 2, 1, 3, 0);
        int[][] due = {{1, 0, 0}, {1, 1, 1}, {0, 0, 0}};
        for (int ship = 0; ship < 3; ship++) {
            for (int owner = 0; owner < 3; owner++) {
                c.due("wreck(" + ship + "," + owner + ")", x.wreck(ship, owner), due[ship][owner]);
            }
        }
    }

    private static void whoLosesMost(Checks c) {
        NineTimbers x = fleet();
        Checks.move(x, 0, 1);
        c.due("one of 2", x.wreck(1, -1), 2);
        Checks.move(x, 1, 1);
        c.due("of several the least", x.wreck(1, -1), 1);
        Checks.move(x, 4, 1);
        c.due("two of 2", x.wreck(1, -1), 2);
        Checks.move(x, 2, 1, 3, 1);
        c.due("two of 0 and of 2", x.wreck(1, -1), 0);
    }

    private static void nobody(Checks c) {
        NineTimbers x = fleet();
        Checks.move(x, 0, 1);
        c.due("an empty hull", x.wreck(0, -1), -1);
        c.due("of owner 2 none", x.wreck(0, 2), 0);
    }

    private static void rottenPlanksDoNotCount(Checks c) {
        NineTimbers x = fleet();
        Checks.move(x, 4, 1, 1, 1);
        c.due("before", x.wreck(1, 2), 1);
        x.days(-1, 2);
        c.due("rotten", x.wreck(1, 2), 0);
        c.due("the other", x.wreck(1, 1), 1);
        c.due("who", x.wreck(1, -1), 1);
    }

    private static void atSeaAsAshore(Checks c) {
        NineTimbers x = fleet();
        Checks.move(x, 0, 0, 1, 0);
        x.days(-1, 1);
        c.due("at sea", x.ship(0, 0), 1);
        c.due("of 2", x.wreck(0, 2), 1);
        c.due("who", x.wreck(0, -1), 1);
    }

    private static void allTwentyFour(Checks c) {
        NineTimbers x = Checks.withYard("kinds 1" + Checks.times(";ship 0", 6) + Checks.times(";plank 0 9 5", 24));
        for (int plank = 0; plank < 24; plank++) {
            Checks.move(x, plank, 5);
        }
        c.due("of 5", x.wreck(5, 5), 24);
        c.due("who", x.wreck(5, -1), 5);
        c.due("of 0", x.wreck(5, 0), 0);
    }

    private static void minus2WithoutThese(Checks c) {
        NineTimbers x = fleet();
        for (int i = -1; i <= 2; i++) {
            c.due("ship 3", x.wreck(3, i), -2);
            c.due("ship -1", x.wreck(-1, i), -2);
        }
        for (int ship = 0; ship < 3; ship++) {
            c.due("owner 3", x.wreck(ship, 3), -2);
            c.due("owner -2", x.wreck(ship, -2), -2);
        }
        for (int far : Checks.FAR) {
            c.due("ship " + far, x.wreck(far, 0), -2);
            c.due("ship " + far, x.wreck(far, -1), -2);
            c.due("owner " + far, x.wreck(0, far), -2);
        }
    }

    private static void byWhatIsAskedNothingChanges(Checks c) {
        NineTimbers x = Checks.withYard(Checks.FLEET);
        Checks.move(x, 0, 0);
        int[] before = Seen.of(x);
        for (int owner = -2; owner <= 2; owner++) {
            x.wreck(0, owner);
            x.wreck(2, owner);
        }
        c.unchanged("wreck", x, before);
    }

    /** Sound is ROT above 0, lost or not. */
    private static void aLostShip(Checks c) {
        NineTimbers x = Checks.withYard("kinds 1;ship 1;ship 1;plank 0 1 0;plank 0 9 1;voyage 0 0 9 5");
        Checks.move(x, 0, 0, 1, 0);
        x.days(-1, 1);
        c.due("lost", x.ship(0, 0), 2);
        c.due("the rotten one", x.wreck(0, 0), 0);
        c.due("the sound one", x.wreck(0, 1), 1);
        c.due("who", x.wreck(0, -1), 1);
    }
}
