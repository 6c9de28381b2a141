/** Promise 6, ship: what is told of a SHIP. */
public final class Promise06ShipTest {
    public static void main(String[] args) {
        Checks.run(Promise06ShipTest.class);
    }

    private static void ashoreAtSeaLost(Checks c) {
        NineTimbers x = Checks.withYard("kinds 1;ship 1;ship 1;plank 0 2 0;plank 0 9 0;voyage 0 1 4 5;voyage 1 1 3 5");
        Checks.move(x, 0, 0, 1, 1);
        int[][] due = {{0, 0}, {0, 0}, {1, 1}, {2, 1}, {2, 0}, {2, 0}};
        for (int day = 0; day < due.length; day++) {
            c.due("ship 0 on day " + day, x.ship(0, 0), due[day][0]);
            c.due("ship 1 on day " + day, x.ship(1, 0), due[day][1]);
            x.days(-1, 1);
        }
    }

    private static void soundPlanksInHer(Checks c) {
        NineTimbers x = Checks.withYard("kinds 2;ship 0 0;ship 0 0;plank 0 1 0;plank 1 9 1;plank 0 9 0;voyage 0 0 1 5");
        c.due("none", x.ship(0, 1), 0);
        Checks.move(x, 0, 0, 1, 0, 2, 1);
        c.due("of any kind and owner", x.ship(0, 1), 2);
        c.due("not those of another", x.ship(1, 1), 1);
        x.days(-1, 1);
        c.due("not a rotten one", x.ship(0, 1), 1);
        Checks.move(x, 2, -1);
        c.due("not those on the heap", x.ship(1, 1), 0);
    }

    private static void twentyFourPlanksInOneShip(Checks c) {
        NineTimbers x = Checks.withYard("kinds 1;ship 5" + Checks.times(";plank 0 9 0", 24));
        for (int plank = 0; plank < 24; plank++) {
            c.due("whole with " + plank, x.ship(0, 2), plank >= 5 ? 1 : 0);
            Checks.move(x, plank, 0);
            c.due("sound", x.ship(0, 1), plank + 1);
        }
    }

    private static void wholeIfAtLeastSoManyOfEachKind(Checks c) {
        NineTimbers x = Checks.withYard("kinds 4;ship 1 0 2 1" + Checks.times(";plank 0 9 0", 2) + Checks.times(";plank 2 9 0", 3)
            + ";plank 3 9 0;plank 1 9 0");
        int[] order = {0, 2, 3, 6, 5, 4, 1};
        int[] due = {0, 0, 0, 0, 1, 1, 1};
        for (int i = 0; i < order.length; i++) {
            Checks.move(x, order[i], 0);
            c.due("with " + (i + 1), x.ship(0, 2), due[i]);
        }
        Checks.move(x, 0, -1);
        c.due("one of kind 0 is left", x.ship(0, 2), 1);
        Checks.move(x, 1, -1);
        c.due("none of kind 0", x.ship(0, 2), 0);
    }

    private static void wholeWithoutPlanksIfSheMustHaveNone(Checks c) {
        NineTimbers x = Checks.withYard("kinds 4;ship 0 0 0 0;ship 0 0 0 1");
        c.due("none", x.ship(0, 2), 1);
        c.due("one of the last kind", x.ship(1, 2), 0);
    }

    private static void aRottenPlankMakesNobodyWhole(Checks c) {
        NineTimbers x = Checks.withYard("kinds 1;ship 1;plank 0 1 0;voyage 0 0 1 5");
        Checks.move(x, 0, 0);
        c.due("whole", x.ship(0, 2), 1);
        x.days(-1, 1);
        c.due("at sea with no rot left", x.ship(0, 2), 0);
        x.days(-1, 1);
        c.due("home with no rot left", x.ship(0, 2), 0);
        c.due("in her all the same", x.plank(0, 3), 0);
    }

    private static void earnedForHerAsAnOwner(Checks c) {
        NineTimbers x = Checks.withYard("kinds 1;ship 2;ship 1;plank 0 9 1;plank 0 9 1;voyage 0 0 1 20;voyage 0 5 6 10");
        Checks.move(x, 0, 0, 1, 0);
        x.days(-1, 1);
        c.due("not yet", x.ship(1, 3), 0);
        x.days(-1, 1);
        c.due("her planks", x.ship(1, 3), 12);
        c.due("her own part", x.ship(0, 3), 8);
        x.days(-1, 5);
        c.due("and more", x.ship(1, 3), 18);
        c.due("and more", x.ship(0, 3), 12);
        c.due("all", x.count(7), 30);
    }

    private static void theVoyageSheIsOn(Checks c) {
        NineTimbers x = Checks.withYard("kinds 1;ship 0;ship 1;plank 0 1 0;voyage 1 0 1 5;voyage 0 1 3 5;voyage 1 2 4 5;"
            + "voyage 0 3 4 5");
        Checks.move(x, 0, 1);
        int[] first = {-1, -1, 1, 1, 3, -1};
        int[] second = {-1, 0, -1, -1, -1, -1};
        for (int day = 0; day < first.length; day++) {
            c.due("ship 0 on day " + day, x.ship(0, 4), first[day]);
            c.due("ship 1 on day " + day, x.ship(1, 4), second[day]);
            x.days(-1, 1);
        }
    }

    private static void aLostShipIsOnNone(Checks c) {
        NineTimbers x = Checks.withYard("kinds 1;ship 1;plank 0 1 0;voyage 0 0 9 5");
        Checks.move(x, 0, 0);
        x.days(-1, 1);
        c.due("lost", x.ship(0, 0), 2);
        c.due("on", x.ship(0, 4), -1);
    }

    private static void howManySheMustHave(Checks c) {
        NineTimbers x = Checks.withYard("kinds 4;ship 0 1 2 3;ship 4 5 0 1");
        for (int kind = 0; kind < 4; kind++) {
            c.due("ship 0", x.ship(0, 5 + kind), kind);
        }
        c.due("ship 1", x.ship(1, 5), 4);
        c.due("ship 1", x.ship(1, 6), 5);
        c.due("the last", x.ship(1, 8), 1);
    }

    private static void noneOfAKindThatTheYardHasNot(Checks c) {
        for (int kinds = 1; kinds <= 4; kinds++) {
            NineTimbers x = Checks.withYard("kinds 4;ship 5 5 5 5");
            Checks.yard(x, "kinds " + kinds + ";ship" + Checks.times(" 3", kinds));
            for (int kind = 0; kind < 4; kind++) {
                c.due("kind " + kind + " of " + kinds, x.ship(0, 5 + kind), kind < kinds ? 3 : -1);
            }
        }
    }

    private static void noneWithoutTheShip(Checks c) {
        NineTimbers x = Checks.withYard(Checks.FLEET);
        for (int what = -1; what <= 9; what++) {
            c.due("ship -1", x.ship(-1, what), -1);
            c.due("ship 2", x.ship(2, what), -1);
            c.due("ship 6", x.ship(6, what), -1);
        }
        for (int far : Checks.FAR) {
            c.due("ship " + far, x.ship(far, 0), -1);
            c.due("ship " + far, x.ship(far, 5), -1);
        }
    }

    private static void noneWithoutTheWhat(Checks c) {
        NineTimbers x = Checks.withYard("kinds 4;ship 1 1 1 1");
        c.due("what -1", x.ship(0, -1), -1);
        c.due("what 9", x.ship(0, 9), -1);
        for (int far : Checks.FAR) {
            c.due("what " + far, x.ship(0, far), -1);
        }
    }

    private static void theSixthShip(Checks c) {
        NineTimbers x = Checks.withYard("kinds 1" + Checks.times(";ship 1", 5) + ";ship 4;plank 0 9 5;voyage 5 0 2 7");
        Checks.move(x, 0, 5);
        c.due("sound", x.ship(5, 1), 1);
        c.due("must", x.ship(5, 5), 4);
        c.due("on", x.ship(5, 4), -1);
    }

    private static void byWhatIsAskedNothingChanges(Checks c) {
        NineTimbers x = Checks.withYard(Checks.FLEET);
        Checks.move(x, 0, 0);
        int[] before = Seen.of(x);
        for (int what = -1; what <= 9; what++) {
            x.ship(0, what);
            x.ship(2, what);
        }
        c.unchanged("ship", x, before);
    }

    private static void aFullYard(Checks c) {
        NineTimbers x = Checks.withRules(Checks.manyVoyages(), "take plank");
        for (int ship = 0; ship < 6; ship++) {
            c.due("not whole", x.ship(ship, 2), 0);
            c.due("must", x.ship(ship, 8), 1);
        }
        x.days(0, 1);
        for (int ship = 0; ship < 6; ship++) {
            c.due("at sea", x.ship(ship, 0), 1);
            c.due("whole", x.ship(ship, 2), 1);
            c.due("on", x.ship(ship, 4), ship);
        }
        x.days(0, 3);
        int[] due = {6, -1, -1, -1, -1, 7};
        for (int ship = 0; ship < 6; ship++) {
            c.due("on", x.ship(ship, 4), due[ship]);
        }
        NineTimbers y = Checks.withYard("kinds 4" + Checks.times(";ship 5 5 5 5", 5) + ";ship 0 0 0 0");
        c.due("the last must have none", y.ship(5, 2), 1);
        c.due("the one ahead", y.ship(4, 2), 0);
    }

    /** Sound is ROT above 0, lost or not. */
    private static void soundPlanksInALostShip(Checks c) {
        NineTimbers x = Checks.withYard("kinds 1;ship 1;plank 0 1 0;plank 0 9 0;voyage 0 0 9 5");
        Checks.move(x, 0, 0, 1, 0);
        x.days(-1, 1);
        c.due("lost", x.ship(0, 0), 2);
        c.due("one has rot left", x.ship(0, 1), 1);
        c.due("whole with it", x.ship(0, 2), 1);
        c.due("lacks none", x.lacks(0, 0), 0);
    }
}
