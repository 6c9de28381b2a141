/** Promise 17, unlike: hulls of which not all three laws say the same. */
public final class Promise17UnlikeTest {
    public static void main(String[] args) {
        Checks.run(Promise17UnlikeTest.class);
    }

    private static void emptyHullsAreUnlike(Checks c) {
        for (int ships = 0; ships <= 6; ships++) {
            c.due(ships + " ships", Checks.withYard("kinds 1" + Checks.times(";ship 0", ships)).unlike(), (1 << ships) - 1);
        }
    }

    private static void allThreeSayTheSame(Checks c) {
        NineTimbers x = Checks.withYard("kinds 1" + Checks.times(";ship 0", 6)
            + ";plank 0 9 0;plank 0 9 1;plank 0 9 2;plank 0 9 3;plank 0 9 4;plank 0 9 5");
        int due = 63;
        for (int ship = 5; ship >= 0; ship--) {
            Checks.move(x, ship, ship);
            due ^= 1 << ship;
            c.due("with her own in " + ship, x.unlike(), due);
        }
    }

    private static void law0SaysAnother(Checks c) {
        NineTimbers x = Checks.withYard("kinds 2;ship 0 0;ship 0 0;plank 0 9 1;plank 1 9 0;plank 1 9 0");
        Checks.move(x, 0, 0, 1, 0, 2, 0);
        c.due("law 0", x.same(0, 0), 1);
        c.due("law 1", x.same(1, 0), 0);
        c.due("unlike", x.unlike(), 3);
    }

    private static void law0SaysNone(Checks c) {
        NineTimbers x = Checks.withYard("kinds 2;ship 0 0;plank 1 9 0");
        Checks.move(x, 0, 0);
        c.due("law 1", x.same(1, 0), 0);
        c.due("unlike", x.unlike(), 1);
    }

    private static void law1SaysAnother(Checks c) {
        NineTimbers x = Checks.withYard("kinds 1;ship 0;ship 0;plank 0 9 0;plank 0 9 1;plank 0 9 1");
        Checks.move(x, 0, 0, 1, 0);
        c.due("of several the least", x.unlike(), 2);
        Checks.move(x, 2, 0);
        c.due("law 0", x.same(0, 0), 0);
        c.due("unlike", x.unlike(), 3);
    }

    private static void laws0And1SayTheSameOther(Checks c) {
        NineTimbers x = Checks.withYard("kinds 1;ship 0;ship 0;plank 0 9 1");
        Checks.move(x, 0, 0);
        c.due("unlike", x.unlike(), 3);
    }

    private static void rottenAndLostHulls(Checks c) {
        NineTimbers x = Checks.withYard("kinds 1;ship 1;ship 1;ship 1;plank 0 1 0;plank 0 1 1;plank 0 9 1;plank 0 9 2;"
            + "voyage 0 0 1 5;voyage 1 0 5 5");
        Checks.move(x, 0, 0, 1, 1, 2, 1, 3, 2);
        c.due("all alike", x.unlike(), 0);
        x.days(-1, 1);
        c.due("a rotten one and a lost one", x.unlike(), 3);
    }

    private static void noneWithoutAYard(Checks c) {
        NineTimbers x = new NineTimbers();
        c.due("none", x.unlike(), -1);
        Checks.yard(x, "kinds");
        c.due("a fault is no yard", x.unlike(), -1);
        Checks.yard(x, "kinds 1");
        c.due("a yard without ships", x.unlike(), 0);
    }

    private static void byWhatIsAskedNothingChanges(Checks c) {
        NineTimbers x = Checks.withYard(Checks.FLEET);
        Checks.move(x, 0, 0);
        int[] before = Seen.of(x);
        x.unlike();
        c.unchanged("unlike", x, before);
    }

    private static void aFullYard(Checks c) {
        NineTimbers x = Checks.withYard(Checks.manyPlanks(9, ""));
        for (int plank = 0; plank < 24; plank++) {
            Checks.move(x, plank, plank % 6);
        }
        c.due("each has her own", x.unlike(), 0);
        Checks.move(x, 0, -1, 6, -1, 12, -1, 18, -1, 23, 0);
        c.due("ship 0 has one of 5", x.unlike(), 1);
    }
}
