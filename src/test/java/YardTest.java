/** Promise 4: yards and their faults; 6, 7, 8 and 23 of a yard that was just told. */
public final class YardTest {
    public static void main(String[] args) {
        Checks c = new Checks();
        told(c);
        blanks(c);
        edges(c);
        wrongSigns(c);
        wrongNumbers(c);
        wrongClauses(c);
        faultKeeps(c);
        replaces(c);
        c.close();
    }

    private static void told(Checks c) {
        NineTimbers x = new NineTimbers();
        c.due("yard", Checks.yard(x, Checks.FLEET), 2);
        int[] counts = {2, 2, 4, 3, 0, 0, 9, 0, 4, 0, 0, 0};
        for (int what = 0; what < counts.length; what++) {
            c.due("count(" + what + ")", x.count(what), counts[what]);
        }
        int[][] ships = {{0, 0, 0, 0, -1, 1, 2, -1, -1, -1}, {0, 0, 0, 0, -1, 1, 1, -1, -1, -1}};
        int[][] planks = {{0, 5, 0, -1, 0, -2}, {1, 3, 0, -1, 0, -2}, {1, 9, 1, -1, 0, -2}, {1, 2, 1, -1, 0, -2}};
        int[][] voyages = {{0, 0, 3, 100, 0, -1}, {1, 1, 4, 50, 0, -1}, {1, 5, 7, 30, 0, -1}};
        for (int i = 0; i < ships.length; i++) {
            for (int what = 0; what < ships[i].length; what++) {
                c.due("ship(" + i + "," + what + ")", x.ship(i, what), ships[i][what]);
            }
        }
        for (int i = 0; i < planks.length; i++) {
            for (int what = 0; what < planks[i].length; what++) {
                c.due("plank(" + i + "," + what + ")", x.plank(i, what), planks[i][what]);
            }
        }
        for (int i = 0; i < voyages.length; i++) {
            for (int what = 0; what < voyages[i].length; what++) {
                c.due("voyage(" + i + "," + what + ")", x.voyage(i, what), voyages[i][what]);
            }
        }
        c.due("ship(2,0)", x.ship(2, 0), -1);
        c.due("ship(-1,0)", x.ship(-1, 0), -1);
        c.due("ship(0,-1)", x.ship(0, -1), -1);
        c.due("plank(4,0)", x.plank(4, 0), -2);
        c.due("plank(-1,0)", x.plank(-1, 0), -2);
        c.due("plank(0,-1)", x.plank(0, -1), -2);
        c.due("voyage(3,0)", x.voyage(3, 0), -1);
        c.due("voyage(-1,0)", x.voyage(-1, 0), -1);
        c.due("voyage(0,-1)", x.voyage(0, -1), -1);
        c.due("ship(0,most)", x.ship(0, Integer.MAX_VALUE), -1);
        c.due("ship(0,least)", x.ship(0, Integer.MIN_VALUE), -1);
    }

    private static void blanks(Checks c) {
        NineTimbers x = new NineTimbers();
        c.due("no blanks", Checks.yard(x, "kinds1;ship1;plank0 1 0;voyage0 0 1 0;hands1"), 1);
        c.due("hands", x.count(6), 1);
        c.due("many", Checks.yard(x, "  kinds  1 ; ship   2;  plank 0   5  0 ; hands 30  "), 1);
        c.due("must", x.ship(0, 5), 2);
        c.due("zeros", Checks.yard(x, "kinds 00002;ship 00003 0"), 1);
        c.due("must", x.ship(0, 5), 3);
        c.due("hands without", x.count(6), 30);
    }

    private static void edges(Checks c) {
        NineTimbers x = new NineTimbers();
        c.due("kinds alone", Checks.yard(x, "kinds 4"), 0);
        c.due("most of all", x.most(1), 0);
        c.due("unlike", x.unlike(), 0);
        c.due("six ships", Checks.yard(x, "kinds 4" + Checks.times(";ship 0 5 0 5", 6)), 6);
        c.due("must", x.ship(5, 8), 5);
        c.due("24 planks", Checks.yard(x, "kinds 1;ship 1" + Checks.times(";plank 0 99 0", 24)), 1);
        c.due("planks", x.count(2), 24);
        c.due("rot", x.plank(23, 1), 99);
        c.due("eight voyages", Checks.yard(x, "kinds 1;ship 1" + Checks.times(";voyage 0 98 99 999", 8)), 1);
        c.due("voyages", x.count(3), 8);
        String full = "kinds 1;ship 1" + Checks.times(";plank 0 99 0", 24);
        c.due("400 bytes", Checks.yard(x, full + Checks.times(" ", 400 - full.length())), 1);
    }

    private static void wrongSigns(Checks c) {
        c.yardFault("", 0, 0);
        c.yardFault("   ", 3, 0);
        c.yardFault("kinds", 5, 0);
        c.yardFault("kinds  ", 7, 0);
        c.yardFault("kinds 1;", 8, 0);
        c.yardFault("kinds 1; ", 9, 0);
        c.yardFault("kinds 1;;ship 1", 8, 0);
        c.yardFault(";kinds 1", 0, 0);
        c.yardFault("kindss 1", 0, 0);
        c.yardFault("kind 1", 0, 0);
        c.yardFault(" Kinds 1", 1, 0);
        c.yardFault("kinds 1 1", 8, 0);
        c.yardFault("kinds 1 1111111", 8, 0);
        c.yardFault("kinds x", 6, 0);
        c.yardFault("kinds -1", 6, 0);
        c.yardFault("kinds 1;ships 1", 8, 0);
        c.yardFault("kinds 1;take 1", 8, 0);
        c.yardFault("kinds 2;ship 1", 14, 0);
        c.yardFault("kinds 2;ship 1;ship 1 1", 14, 0);
        c.yardFault("kinds 2;ship 1 1 1", 17, 0);
        c.yardFault("kinds 1;ship 1 plank", 15, 0);
        c.yardFault("kinds 1;ship 1;plank 0 1", 24, 0);
        c.yardFault("kinds 1;ship 1;voyage 0 1 2", 27, 0);
        c.yardFault("kinds 1;hands 1 1", 16, 0);
        c.yardFault("kinds\t1", 5, 0);
    }

    private static void wrongNumbers(Checks c) {
        c.yardFault("kinds 0", 6, 1);
        c.yardFault("kinds 5", 6, 1);
        c.yardFault("kinds 000001", 6, 1);
        c.yardFault("kinds 99999999999999999999", 6, 1);
        c.yardFault("kinds 1;ship 6", 13, 1);
        c.yardFault("kinds 1;plank 0 1 0", 18, 1);
        c.yardFault("kinds 1;plank 1 1 0", 14, 1);
        c.yardFault("kinds 1;ship 1;plank 0 0 0", 23, 1);
        c.yardFault("kinds 1;ship 1;plank 0 100 0", 23, 1);
        c.yardFault("kinds 1;ship 1;plank 0 1 1", 25, 1);
        c.yardFault("kinds 1;ship 1;voyage 1 0 1 1", 22, 1);
        c.yardFault("kinds 1;ship 1;voyage 0 99 99 1", 24, 1);
        c.yardFault("kinds 1;ship 1;voyage 0 5 5 1", 26, 1);
        c.yardFault("kinds 1;ship 1;voyage 0 5 4 1", 26, 1);
        c.yardFault("kinds 1;ship 1;voyage 0 5 100 1", 26, 1);
        c.yardFault("kinds 1;ship 1;voyage 0 5 6 1000", 28, 1);
        c.yardFault("kinds 1;hands 0", 14, 1);
        c.yardFault("kinds 1;hands 31", 14, 1);
    }

    private static void wrongClauses(Checks c) {
        c.yardFault("ship 1", 0, 4);
        c.yardFault("  hands 1;kinds 1", 2, 4);
        c.yardFault("plank x", 0, 4);
        c.yardFault("kinds 1;kinds 1", 8, 4);
        c.yardFault("kinds 1;hands 1; hands 1", 17, 4);
        c.yardFault("kinds 1" + Checks.times(";ship1", 7), 44, 4);
        c.yardFault("kinds 1;ship 1" + Checks.times(";plank0 1 0", 25), 15 + 24 * 11, 4);
        c.yardFault("kinds 1;ship 1" + Checks.times(";voyage0 0 1 0", 9), 15 + 8 * 14, 4);
    }

    private static void faultKeeps(Checks c) {
        NineTimbers x = Checks.withYard(Checks.FLEET);
        x.seed(77);
        x.move(0, 1);
        x.days(-1, 2);
        c.due("a fault", Checks.yard(x, "kinds 3;ship 1 1 1;ship"), Checks.fault(23, 0));
        c.due("tape", x.count(11), 0);
        c.due("kinds", x.count(0), 2);
        c.due("ships", x.count(1), 2);
        c.due("day", x.count(5), 2);
        c.due("moves", x.count(9), 1);
        c.due("x", x.count(10), 77);
        c.due("must", x.ship(0, 6), 2);
        c.due("in", x.plank(0, 3), 1);
    }

    private static void replaces(Checks c) {
        NineTimbers x = Checks.withYard(Checks.FLEET);
        x.seed(77);
        Checks.rule(x, "take 0-rot");
        x.days(0, 8);
        c.due("earned", x.count(7) > 0, true);
        c.due("another", Checks.yard(x, "kinds 1;ship 2;ship 1;ship 0;plank 0 4 2"), 3);
        int[] counts = {1, 3, 1, 0, 1, 0, 30, 0, 1, 0, 77, 0};
        for (int what = 0; what < counts.length; what++) {
            c.due("count(" + what + ")", x.count(what), counts[what]);
        }
        c.due("ship", x.ship(0, 3), 0);
        c.due("state", x.ship(1, 0), 0);
        c.due("kind 1", x.ship(0, 6), -1);
    }
}
