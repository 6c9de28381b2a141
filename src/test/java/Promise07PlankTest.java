/** Promise 7, plank: what is told of a PLANK. */
public final class Promise07PlankTest {
    public static void main(String[] args) {
        Checks.run(Promise07PlankTest.class);
    }

    private static void asTold(Checks c) {
        NineTimbers x = Checks.withYard("kinds 4;ship 1 0 0 0;ship 0 0 0 1;plank 3 99 1;plank 0 1 0;plank 2 50 1");
        int[][] due = {{3, 99, 1, -1, 0}, {0, 1, 0, -1, 0}, {2, 50, 1, -1, 0}};
        for (int plank = 0; plank < 3; plank++) {
            for (int what = 0; what <= 4; what++) {
                c.due("plank(" + plank + "," + what + ")", x.plank(plank, what), due[plank][what]);
            }
        }
    }

    private static void rotThatIsLeft(Checks c) {
        NineTimbers x = Checks.withYard("kinds 1;ship 1;ship 1;plank 0 3 0;plank 0 9 0;plank 0 9 1;voyage 0 1 4 5");
        Checks.move(x, 0, 0, 1, 1);
        int[] due = {3, 3, 2, 1, 0, 0};
        for (int day = 0; day < due.length; day++) {
            c.due("at sea, day " + day, x.plank(0, 1), due[day]);
            c.due("ashore", x.plank(1, 1), 9);
            c.due("on the heap", x.plank(2, 1), 9);
            x.days(-1, 1);
        }
    }

    private static void theShipItIsIn(Checks c) {
        NineTimbers x = Checks.withYard("kinds 1;ship 1;ship 1;plank 0 2 0;plank 0 1 1;voyage 0 0 1 5;voyage 1 0 5 5");
        c.due("heap", x.plank(0, 3), -1);
        Checks.move(x, 0, 0, 1, 1);
        c.due("ship 0", x.plank(0, 3), 0);
        c.due("ship 1", x.plank(1, 3), 1);
        x.days(-1, 1);
        c.due("at sea", x.plank(0, 3), 0);
        c.due("lost with her", x.plank(1, 3), 1);
        x.days(-1, 1);
        Checks.move(x, 0, -1);
        c.due("heap", x.plank(0, 3), -1);
    }

    private static void whoseItIsStays(Checks c) {
        NineTimbers x = Checks.withYard("kinds 1;ship 1;ship 1;plank 0 9 1");
        Checks.move(x, 0, 0);
        c.due("in another ship", x.plank(0, 2), 1);
        Checks.move(x, 0, -1);
        c.due("on the heap", x.plank(0, 2), 1);
    }

    private static void lostOrNot(Checks c) {
        NineTimbers x = Checks.withYard("kinds 1;ship 1;ship 1;plank 0 2 0;plank 0 9 0;plank 0 9 0;plank 0 9 0;voyage 0 0 4 5;"
            + "voyage 1 0 4 5");
        Checks.move(x, 0, 0, 1, 0, 2, 1);
        x.days(-1, 1);
        c.due("not yet", x.plank(0, 4) + x.plank(1, 4), 0);
        x.days(-1, 1);
        c.due("the one that rotted", x.plank(0, 4), 1);
        c.due("the sound one in her", x.plank(1, 4), 1);
        c.due("in another ship at sea", x.plank(2, 4), 0);
        c.due("on the heap", x.plank(3, 4), 0);
        c.due("rot of a lost one", x.plank(1, 1), 7);
        x.days(-1, 5);
        c.due("a lost one rots no more", x.plank(1, 1), 7);
        c.due("it stays lost", x.plank(1, 4), 1);
    }

    private static void aRottenPlankThatCameHomeIsNotLost(Checks c) {
        NineTimbers x = Checks.withYard("kinds 1;ship 1;plank 0 1 0;voyage 0 0 1 5");
        Checks.move(x, 0, 0);
        x.days(-1, 2);
        c.due("rot", x.plank(0, 1), 0);
        c.due("lost", x.plank(0, 4), 0);
        c.due("in", x.plank(0, 3), 0);
    }

    private static void minus2WithoutThePlank(Checks c) {
        NineTimbers x = Checks.withYard(Checks.FLEET);
        for (int what = -1; what <= 5; what++) {
            c.due("plank -1", x.plank(-1, what), -2);
            c.due("plank 4", x.plank(4, what), -2);
        }
        for (int far : Checks.FAR) {
            c.due("plank " + far, x.plank(far, 0), -2);
        }
    }

    private static void minus2WithoutTheWhat(Checks c) {
        NineTimbers x = Checks.withYard(Checks.FLEET);
        c.due("what -1", x.plank(0, -1), -2);
        c.due("what 5", x.plank(0, 5), -2);
        for (int far : Checks.FAR) {
            c.due("what " + far, x.plank(0, far), -2);
        }
    }

    private static void theLastPlank(Checks c) {
        NineTimbers x = Checks.withYard("kinds 1;ship 1" + Checks.times(";plank 0 9 0", 23) + ";plank 0 8 0");
        c.due("plank 23", x.plank(23, 1), 8);
        c.due("plank 24", x.plank(24, 1), -2);
        Checks.move(x, 23, 0);
        c.due("in", x.plank(23, 3), 0);
        c.due("the one ahead", x.plank(22, 3), -1);
    }

    private static void byWhatIsAskedNothingChanges(Checks c) {
        NineTimbers x = Checks.withYard(Checks.FLEET);
        Checks.move(x, 0, 0);
        int[] before = Seen.of(x);
        for (int what = -1; what <= 5; what++) {
            x.plank(0, what);
            x.plank(4, what);
        }
        c.unchanged("plank", x, before);
    }
}
