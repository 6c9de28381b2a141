/** Promise 9, move: PLANKS BY HAND. */
public final class Promise09MoveTest {
    public static void main(String[] args) {
        Checks.run(Promise09MoveTest.class);
    }

    /** A move must be refused and leave all as it was. */
    private static void refused(Checks c, String why, NineTimbers x, int plank, int ship) {
        int[] before = Seen.of(x);
        c.due(why, x.move(plank, ship), false);
        c.unchanged(why, x, before);
    }

    private static void toAShipToAnotherToTheHeap(Checks c) {
        NineTimbers x = Checks.withYard(Checks.FLEET);
        c.due("to a ship", x.move(1, 0), true);
        c.due("in", x.plank(1, 3), 0);
        c.due("to another", x.move(1, 1), true);
        c.due("in", x.plank(1, 3), 1);
        c.due("to the heap", x.move(1, -1), true);
        c.due("in", x.plank(1, 3), -1);
        c.due("hands", x.count(6), 6);
        c.due("moves", x.count(9), 3);
        c.due("heap", x.count(8), 4);
    }

    private static void moreThanSheMustHaveAndOfAnyKind(Checks c) {
        NineTimbers x = Checks.withYard("kinds 2;ship 0 0;ship 1 0;plank 1 9 1;plank 0 9 1");
        c.due("she must have none", x.move(0, 0), true);
        c.due("another's", x.move(1, 0), true);
        c.due("sound", x.ship(0, 1), 2);
    }

    private static void isThere(Checks c) {
        NineTimbers x = Checks.withYard(Checks.FLEET);
        refused(c, "on the heap already", x, 1, -1);
        Checks.move(x, 1, 0);
        refused(c, "in her already", x, 1, 0);
    }

    private static void withoutThese(Checks c) {
        NineTimbers x = Checks.withYard(Checks.FLEET);
        refused(c, "plank 4", x, 4, 0);
        refused(c, "plank -1", x, -1, 0);
        refused(c, "ship 2", x, 0, 2);
        NineTimbers y = Checks.withYard(Checks.FLEET);
        refused(c, "ship -2", y, 0, -2);
        refused(c, "no plank to the heap", y, 4, -1);
        for (int far : Checks.FAR) {
            c.due("plank " + far, y.move(far, 0), false);
            c.due("ship " + far, y.move(0, far), false);
        }
        c.due("moves", y.count(9), 0);
    }

    private static void notWithoutRot(Checks c) {
        NineTimbers x = Checks.withYard("kinds 1;ship 1;ship 1;plank 0 1 0;plank 0 2 0;voyage 0 0 1 5");
        Checks.move(x, 0, 0, 1, 0);
        x.days(-1, 2);
        refused(c, "to the heap", x, 0, -1);
        refused(c, "to another", x, 0, 1);
        c.due("with 1 left", x.move(1, 1), true);
    }

    private static void notFromAShipAtSea(Checks c) {
        NineTimbers x = Checks.withYard("kinds 1;ship 1;ship 1;plank 0 9 0;voyage 0 0 3 5");
        Checks.move(x, 0, 0);
        x.days(-1, 1);
        refused(c, "to the heap", x, 0, -1);
        refused(c, "to another", x, 0, 1);
        x.days(-1, 2);
        c.due("on the day she comes home, at sea still", x.move(0, -1), false);
        x.days(-1, 1);
        c.due("home", x.move(0, -1), true);
    }

    private static void notToAShipAtSea(Checks c) {
        NineTimbers x = Checks.withYard("kinds 1;ship 0;ship 1;plank 0 9 0;plank 0 9 0;voyage 0 0 1 5");
        Checks.move(x, 1, 1);
        x.days(-1, 1);
        refused(c, "from the heap", x, 0, 0);
        refused(c, "from another", x, 1, 0);
        x.days(-1, 1);
        c.due("home", x.move(0, 0), true);
    }

    private static void notALostPlankNorToALostShip(Checks c) {
        NineTimbers x = Checks.withYard("kinds 1;ship 1;ship 1;plank 0 1 0;plank 0 9 0;plank 0 9 0;voyage 0 0 3 5");
        Checks.move(x, 0, 0, 1, 0);
        x.days(-1, 1);
        c.due("lost", x.ship(0, 0), 2);
        refused(c, "a lost sound plank to the heap", x, 1, -1);
        refused(c, "a lost sound plank to another", x, 1, 1);
        refused(c, "a lost rotten plank", x, 0, -1);
        refused(c, "to a lost ship", x, 2, 0);
        c.due("to a ship ashore", x.move(2, 1), true);
    }

    private static void eachMoveIsOneOfTheHands(Checks c) {
        NineTimbers x = Checks.withYard("kinds 1;ship 1;plank 0 5 0;plank 0 5 0;plank 0 5 0;hands 2");
        c.due("1", x.move(0, 0), true);
        c.due("hands", x.count(6), 1);
        c.due("2", x.move(1, 0), true);
        c.due("hands", x.count(6), 0);
        refused(c, "none left", x, 2, 0);
        refused(c, "none left to the heap", x, 0, -1);
    }

    private static void oneHand(Checks c) {
        NineTimbers x = Checks.withYard("kinds 1;ship 1;plank 0 5 0;hands 1");
        c.due("1", x.move(0, 0), true);
        c.due("2", x.move(0, -1), false);
        c.due("hands", x.count(6), 0);
    }

    private static void thirtyHands(Checks c) {
        NineTimbers x = Checks.withYard("kinds 1;ship 1;plank 0 5 0");
        for (int i = 0; i < 30; i++) {
            c.due("hands", x.count(6), 30 - i);
            c.due("move " + (i + 1), x.move(0, i % 2 == 0 ? 0 : -1), true);
        }
        c.due("hands", x.count(6), 0);
        c.due("move 31", x.move(0, 0), false);
        c.due("moves", x.count(9), 30);
        c.due("in", x.plank(0, 3), -1);
    }

    private static void refusedMovesTakeNoHands(Checks c) {
        NineTimbers x = Checks.withYard("kinds 1;ship 1;plank 0 5 0;hands 1");
        x.move(0, -1);
        x.move(1, 0);
        x.move(0, 1);
        c.due("hands", x.count(6), 1);
        c.due("move", x.move(0, 0), true);
    }

    private static void theHandsAreOfThatDay(Checks c) {
        NineTimbers x = Checks.withYard("kinds 1;ship 1;plank 0 5 0;hands 1");
        for (int day = 0; day < 4; day++) {
            c.due("on day " + day, x.move(0, day % 2 == 0 ? 0 : -1), true);
            c.due("hands", x.count(6), 0);
            x.days(-1, 1);
            c.due("hands", x.count(6), 1);
        }
        c.due("moves in all", x.count(9), 4);
    }

    private static void onTheLastDay(Checks c) {
        NineTimbers x = Checks.withYard("kinds 1;ship 1;plank 0 5 0;hands 1");
        x.days(-1, 100);
        x.days(-1, 100);
        c.due("hands", x.count(6), 1);
        c.due("move", x.move(0, 0), true);
        c.due("no more", x.move(0, -1), false);
    }

    private static void theLastPlankToTheLastShip(Checks c) {
        NineTimbers x = Checks.withYard("kinds 1" + Checks.times(";ship 0", 6) + Checks.times(";plank 0 9 0", 24));
        c.due("plank 23 to ship 5", x.move(23, 5), true);
        c.due("in", x.plank(23, 3), 5);
        c.due("plank 24", x.move(24, 5), false);
        c.due("ship 6", x.move(23, 6), false);
        c.due("plank 0 to ship 0", x.move(0, 0), true);
    }
}
