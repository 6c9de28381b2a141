/** Promise 19, dealt: how the heap should be dealt. */
public final class Promise19DealtTest {
    public static void main(String[] args) {
        Checks.run(Promise19DealtTest.class);
    }

    private static void dealt(Checks c, NineTimbers x, int pay, int set) {
        c.due("pay", x.dealt(0), pay);
        c.due("set", x.dealt(1), set);
    }

    private static void thoseThatCouldAllBeWholeAtOnce(Checks c) {
        String text = "kinds 2;ship 2 0;ship 1 1;ship 1 0;voyage 0 0 1 10;voyage 1 3 4 12;voyage 2 3 4 8";
        dealt(c, Checks.withYard(text), 0, 0);
        dealt(c, Checks.withYard(text + ";plank 0 9 0"), 8, 4);
        dealt(c, Checks.withYard(text + ";plank 0 9 0;plank 1 9 0"), 12, 2);
        dealt(c, Checks.withYard(text + ";plank 0 9 0;plank 1 9 0;plank 0 9 0"), 20, 6);
        dealt(c, Checks.withYard(text + ";plank 0 9 0;plank 1 9 0;plank 0 9 0;plank 0 9 0"), 22, 3);
        dealt(c, Checks.withYard(text + ";plank 1 9 0" + Checks.times(";plank 0 9 0", 4)), 30, 7);
    }

    private static void eachKindForItself(Checks c) {
        for (int kind = 0; kind < 4; kind++) {
            String must = Checks.times(" 1", kind) + " 2" + Checks.times(" 1", 3 - kind);
            NineTimbers x = Checks.withYard("kinds 4;ship 1 1 1 1;ship" + must + ";plank 0 5 0;plank 1 5 0;plank 2 5 0;plank 3 5 0;"
                + "voyage 0 0 1 3;voyage 1 0 1 5");
            dealt(c, x, 3, 1);
        }
    }

    private static void payOfAllVoyagesOfAShip(Checks c) {
        dealt(c, Checks.withYard("kinds 1;ship 1;ship 1;plank 0 9 0;voyage 0 0 5 9;voyage 1 0 5 5;voyage 1 0 5 5"), 10, 2);
    }

    private static void ofSeveralTheFewestShips(Checks c) {
        dealt(c, Checks.withYard("kinds 1;ship 1;ship 1;ship 2;plank 0 9 0;plank 0 9 0;voyage 0 0 1 5;voyage 1 0 1 5;"
            + "voyage 2 0 1 10"), 10, 4);
        dealt(c, Checks.withYard("kinds 1;ship 0;ship 0;voyage 1 0 1 5;voyage 0 0 1 0"), 5, 2);
    }

    private static void thenTheLeastAsBits(Checks c) {
        dealt(c, Checks.withYard("kinds 1;ship 1;ship 1;ship 0;plank 0 9 0;voyage 0 0 1 10;voyage 1 0 1 10;voyage 2 0 1 1"), 11, 5);
        dealt(c, Checks.withYard("kinds 1;ship 2;ship 1;ship 1;plank 0 9 0;voyage 2 0 1 10;voyage 1 0 1 10"), 10, 2);
    }

    private static void noPayNoShip(Checks c) {
        dealt(c, Checks.withYard("kinds 1;ship 0;voyage 0 0 1 0"), 0, 0);
        dealt(c, Checks.withYard("kinds 1;ship 0"), 0, 0);
        dealt(c, Checks.withYard("kinds 1"), 0, 0);
    }

    private static void voyagesThatBeginOnThisDayOrLater(Checks c) {
        NineTimbers x = Checks.withYard("kinds 1;ship 0;ship 1;voyage 0 1 2 3;voyage 0 2 3 4;voyage 1 5 6 9");
        int[] due = {7, 7, 4, 0, 0};
        for (int day = 0; day < due.length; day++) {
            dealt(c, x, due[day], due[day] > 0 ? 1 : 0);
            x.days(-1, 1);
        }
    }

    private static void theLastVoyageDay(Checks c) {
        NineTimbers x = Checks.withYard("kinds 1;ship 0;voyage 0 98 99 7");
        x.days(-1, 98);
        dealt(c, x, 7, 1);
        x.days(-1, 1);
        dealt(c, x, 0, 0);
        x.days(-1, 100);
        dealt(c, x, 0, 0);
    }

    private static void lostShipsDoNotCount(Checks c) {
        NineTimbers x = Checks.withYard("kinds 1;ship 1;ship 0;plank 0 1 0;plank 0 9 0;voyage 0 0 4 10;voyage 0 5 6 30;voyage 1 7 8 4");
        dealt(c, x, 44, 3);
        Checks.move(x, 0, 0);
        x.days(-1, 1);
        c.due("lost", x.ship(0, 0), 2);
        dealt(c, x, 4, 2);
    }

    private static void lostAndRottenPlanksDoNotCount(Checks c) {
        NineTimbers x = Checks.withYard("kinds 1;ship 1;ship 1;ship 1;plank 0 1 0;plank 0 9 0;plank 0 1 0;plank 0 9 0;voyage 0 0 4 1;"
            + "voyage 1 0 1 1;voyage 1 9 10 5;voyage 2 9 10 5");
        Checks.move(x, 0, 0, 1, 0, 2, 1);
        x.days(-1, 2);
        c.due("lost", x.plank(1, 4), 1);
        c.due("rotten", x.plank(2, 1), 0);
        dealt(c, x, 5, 2);
    }

    private static void planksAtSeaCountToo(Checks c) {
        NineTimbers x = Checks.withYard("kinds 1;ship 1;ship 1;plank 0 9 0;voyage 0 0 4 10;voyage 1 6 7 4");
        Checks.move(x, 0, 0);
        x.days(-1, 1);
        c.due("at sea", x.ship(0, 0), 1);
        dealt(c, x, 4, 2);
    }

    private static void shipsAtSeaCountToo(Checks c) {
        NineTimbers x = Checks.withYard("kinds 1;ship 1;plank 0 9 0;voyage 0 0 4 10;voyage 0 6 7 4");
        Checks.move(x, 0, 0);
        x.days(-1, 1);
        dealt(c, x, 4, 1);
    }

    private static void allSixShips(Checks c) {
        NineTimbers x = Checks.withYard("kinds 1" + Checks.times(";ship 4", 6) + Checks.times(";plank 0 9 0", 24)
            + ";voyage 5 0 1 9;voyage 0 0 1 8");
        dealt(c, x, 17, 33);
        NineTimbers y = Checks.withYard("kinds 1" + Checks.times(";ship 1", 6) + Checks.times(";plank 0 9 0", 6)
            + ";voyage 0 0 1 1;voyage 1 0 1 1;voyage 2 0 1 1;voyage 3 0 1 1;voyage 4 0 1 1;voyage 5 0 1 1");
        dealt(c, y, 6, 63);
    }

    private static void noneWithoutTheWhat(Checks c) {
        NineTimbers x = Checks.withYard(Checks.FLEET);
        c.due("what 2", x.dealt(2), -1);
        c.due("what -1", x.dealt(-1), -1);
        for (int far : Checks.FAR) {
            c.due("what " + far, x.dealt(far), -1);
        }
    }

    private static void noneWithoutAYard(Checks c) {
        NineTimbers x = new NineTimbers();
        c.due("pay", x.dealt(0), -1);
        c.due("set", x.dealt(1), -1);
    }

    private static void byWhatIsAskedNothingChanges(Checks c) {
        NineTimbers x = Checks.withYard(Checks.FLEET);
        Checks.move(x, 0, 0);
        int[] before = Seen.of(x);
        for (int what = -1; what <= 2; what++) {
            x.dealt(what);
        }
        c.unchanged("dealt", x, before);
    }

    private static void pay1IsMoreThanNone(Checks c) {
        dealt(c, Checks.withYard("kinds 1;ship 0;voyage 0 0 2 1"), 1, 1);
        dealt(c, Checks.withYard("kinds 1;ship 1;ship 0;voyage 0 0 2 9;voyage 1 0 2 1"), 1, 2);
    }

    private static void aPlankWithARotOf1IsSound(Checks c) {
        dealt(c, Checks.withYard("kinds 1;ship 1;plank 0 1 0;voyage 0 0 9 5"), 5, 1);
    }

    private static void aFullYard(Checks c) {
        dealt(c, Checks.withYard(Checks.manyVoyages()), 36, 63);
        dealt(c, Checks.withYard(Checks.manyVoyages().replace("plank 3 9 5", "plank 2 9 5")), 34, 61);
        dealt(c, Checks.withYard(Checks.manyPlanks(1, ";voyage 5 0 9 5;voyage 3 0 9 5")), 10, 40);
    }
}
