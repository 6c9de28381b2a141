/** Promise 13, cut: where a set of VOYAGES fails. */
public final class Promise13CutTest {
    public static void main(String[] args) {
        Checks.run(Promise13CutTest.class);
    }

    private static void cut(Checks c, NineTimbers x, int set, int day, int kind) {
        c.due("day of " + set, x.cut(set, 0), day);
        c.due("kind of " + set, x.cut(set, 1), kind);
    }

    private static void theFirstDay(Checks c) {
        NineTimbers x = Checks.withYard("kinds 1;ship 1;ship 1;plank 0 9 0;voyage 0 3 9 1;voyage 1 7 8 1;voyage 1 2 4 1;voyage 1 5 6 1");
        cut(c, x, 1 | 2, 7, 0);
        cut(c, x, 1 | 4, 3, 0);
        cut(c, x, 1 | 8, 5, 0);
        cut(c, x, 1 | 2 | 8, 5, 0);
        cut(c, x, 15, 3, 0);
    }

    private static void day0AndDay98(Checks c) {
        NineTimbers x = Checks.withYard("kinds 1;ship 1;voyage 0 0 1 1;voyage 0 98 99 1");
        cut(c, x, 1, 0, 0);
        cut(c, x, 2, 98, 0);
        cut(c, x, 3, 0, 0);
    }

    private static void ofThatDayTheLeastKind(Checks c) {
        NineTimbers x = Checks.withYard("kinds 4;ship 0 0 0 2;ship 0 0 2 0;ship 0 2 0 0;ship 2 0 0 0;plank 0 9 0;plank 1 9 0;"
            + "plank 2 9 0;plank 3 9 0;voyage 0 0 9 1;voyage 1 0 9 1;voyage 2 0 9 1;voyage 3 1 9 1");
        cut(c, x, 1, 0, 3);
        cut(c, x, 3, 0, 2);
        cut(c, x, 7, 0, 1);
        cut(c, x, 8, 1, 0);
        cut(c, x, 15, 0, 1);
    }

    private static void theDayComesAheadOfTheKind(Checks c) {
        NineTimbers x = Checks.withYard("kinds 2;ship 2 0;ship 0 2;plank 0 9 0;plank 1 9 0;voyage 0 5 9 1;voyage 1 4 9 1");
        cut(c, x, 3, 4, 1);
        cut(c, x, 1, 5, 0);
    }

    private static void fourForAShipOnTwo(Checks c) {
        NineTimbers x = Checks.withYard("kinds 1;ship 1;plank 0 5 0;plank 0 5 0;voyage 0 3 8 10;voyage 0 6 9 20;voyage 0 8 9 1");
        cut(c, x, 3, 6, 4);
        cut(c, x, 6, 8, 4);
        cut(c, x, 7, 6, 4);
        NineTimbers y = Checks.withYard("kinds 4;ship 0 0 0 0;voyage 0 0 2 1;voyage 0 0 2 1");
        cut(c, y, 3, 0, 4);
    }

    private static void aKindComesAheadOfAShipOnTwo(Checks c) {
        NineTimbers x = Checks.withYard("kinds 4;ship 0 0 0 1;plank 3 9 0;voyage 0 3 8 10;voyage 0 6 9 20");
        cut(c, x, 3, 6, 3);
    }

    private static void aShipOnTwoCountsTwice(Checks c) {
        String text = "kinds 1;ship 2;voyage 0 0 8 10;voyage 0 0 9 20";
        cut(c, Checks.withYard(text + Checks.times(";plank 0 9 0", 3)), 3, 0, 0);
        cut(c, Checks.withYard(text + Checks.times(";plank 0 9 0", 4)), 3, 0, 4);
    }

    private static void anEarlierShipOnTwoComesAheadOfAKind(Checks c) {
        NineTimbers x = Checks.withYard("kinds 1;ship 0;ship 1;voyage 0 2 5 1;voyage 0 3 5 1;voyage 1 4 5 1");
        cut(c, x, 7, 3, 4);
    }

    private static void minus2IfTheyCanBe(Checks c) {
        NineTimbers x = Checks.withYard("kinds 1;ship 1;plank 0 5 0;voyage 0 0 1 0;voyage 0 1 2 0");
        for (int set = 0; set < 4; set++) {
            cut(c, x, set, -2, -2);
        }
        cut(c, Checks.withYard("kinds 1"), 0, -2, -2);
    }

    /** NONE is for VOYAGES and whats that there are not; the empty set has none of these, and no YARD is asked for here. */
    private static void theEmptySetCanBeWithoutAYard(Checks c) {
        NineTimbers x = new NineTimbers();
        cut(c, x, 0, -2, -2);
        cut(c, x, 1, -1, -1);
        cut(c, x, -1, -1, -1);
        c.due("what -1", x.cut(0, -1), -1);
        c.due("what 2", x.cut(0, 2), -1);
        Checks.yard(x, "kinds 1;ship 0;voyage 0 0 1 1;x");
        cut(c, x, 0, -2, -2);
        cut(c, x, 1, -1, -1);
    }

    private static void afterALoss(Checks c) {
        NineTimbers x = Checks.withYard("kinds 1;ship 1;ship 1;plank 0 1 0;plank 0 9 0;voyage 0 0 3 7;voyage 1 1 2 5");
        cut(c, x, 3, -2, -2);
        Checks.move(x, 0, 0);
        x.days(-1, 1);
        cut(c, x, 3, 1, 0);
    }

    private static void noneWithoutThese(Checks c) {
        NineTimbers x = Checks.withYard(Checks.FLEET);
        for (int set : new int[] {8, 9, 255, 256, -1, Integer.MIN_VALUE, Integer.MAX_VALUE}) {
            cut(c, x, set, -1, -1);
        }
        for (int what : new int[] {-1, 2, 3, Integer.MIN_VALUE, Integer.MAX_VALUE}) {
            c.due("what " + what, x.cut(3, what), -1);
            c.due("what " + what + " of a set that can be", x.cut(0, what), -1);
        }
    }

    private static void sameAsTogether(Checks c) {
        NineTimbers x = Checks.withYard(Checks.FLEET);
        for (int set = 0; set < 8; set++) {
            c.due("set " + set, x.cut(set, 0) == -2, x.together(set) == 1);
            c.due("set " + set, x.cut(set, 1) == -2, x.together(set) == 1);
        }
    }

    private static void byWhatIsAskedNothingChanges(Checks c) {
        NineTimbers x = Checks.withYard(Checks.FLEET);
        Checks.move(x, 0, 0);
        int[] before = Seen.of(x);
        for (int set = -1; set <= 8; set++) {
            x.cut(set, 0);
            x.cut(set, 1);
        }
        c.unchanged("cut", x, before);
    }

    private static void aFullYard(Checks c) {
        cut(c, Checks.withYard(Checks.manyVoyages()), 255, -2, -2);
        cut(c, Checks.withYard(Checks.manyVoyages().replace("plank 3 9 5", "plank 2 9 5")), 255, 0, 3);
        cut(c, Checks.withYard(Checks.manyVoyages().replace("voyage 5 3", "voyage 0 3")), 255, 3, 4);
    }
}
