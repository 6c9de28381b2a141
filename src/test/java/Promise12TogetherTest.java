/** Promise 12, together: whether a set of VOYAGES can be. */
public final class Promise12TogetherTest {
    public static void main(String[] args) {
        Checks.run(Promise12TogetherTest.class);
    }

    private static void soManyPlanksAsAllShipsMustHave(Checks c) {
        NineTimbers x = Checks.withYard("kinds 1;ship 2;ship 2;ship 1;plank 0 5 0;plank 0 5 0;plank 0 5 0;"
            + "voyage 0 0 5 10;voyage 1 4 6 30;voyage 2 0 99 40");
        c.due("2 of 3", x.together(1), 1);
        c.due("2 and 2", x.together(3), 0);
        c.due("2 and 1", x.together(5), 1);
        c.due("2, 2 and 1", x.together(7), 0);
    }

    private static void eachKindForItself(Checks c) {
        for (int kind = 0; kind < 4; kind++) {
            String must = Checks.times(" 1", kind) + " 2" + Checks.times(" 1", 3 - kind);
            NineTimbers x = Checks.withYard("kinds 4;ship 1 1 1 1;ship" + must + ";plank 0 5 0;plank 1 5 0;plank 2 5 0;plank 3 5 0;"
                + "voyage 0 0 1 0;voyage 1 0 1 0");
            c.due("as many as there are", x.together(1), 1);
            c.due("one more of kind " + kind, x.together(2), 0);
        }
    }

    private static void fromItsFirstDayToTheOneAheadOfItsLast(Checks c) {
        NineTimbers x = Checks.withYard("kinds 1;ship 1;ship 1;plank 0 5 0;voyage 0 2 5 1;voyage 1 5 7 1;voyage 1 4 5 1;"
            + "voyage 1 0 2 1;voyage 1 0 3 1;voyage 1 3 4 1");
        c.due("begins where it ends", x.together(1 | 2), 1);
        c.due("begins on its last day at sea", x.together(1 | 4), 0);
        c.due("ends where it begins", x.together(1 | 8), 1);
        c.due("ends a day later", x.together(1 | 16), 0);
        c.due("within", x.together(1 | 32), 0);
    }

    private static void noShipOnTwo(Checks c) {
        NineTimbers x = Checks.withYard("kinds 1;ship 0;ship 0;voyage 0 0 5 1;voyage 0 4 6 1;voyage 0 5 6 1;voyage 1 0 9 1");
        c.due("on two on day 4", x.together(3), 0);
        c.due("one behind the other", x.together(5), 1);
        c.due("two ships", x.together(1 | 8), 1);
    }

    private static void aShipOnTwoThoughThereArePlanksForBoth(Checks c) {
        NineTimbers x = Checks.withYard("kinds 1;ship 1;plank 0 5 0;plank 0 5 0;voyage 0 0 5 1;voyage 0 4 6 1");
        c.due("on two", x.together(3), 0);
    }

    private static void theEmptySetCanBe(Checks c) {
        c.due("with voyages", Checks.withYard(Checks.FLEET).together(0), 1);
        c.due("without voyages", Checks.withYard("kinds 1").together(0), 1);
    }

    /** NONE is for VOYAGES that there are not; the empty set has none of these, and no YARD is asked for here. */
    private static void theEmptySetCanBeWithoutAYard(Checks c) {
        NineTimbers x = new NineTimbers();
        c.due("a new object", x.together(0), 1);
        c.due("a set with a voyage", x.together(1), -1);
        c.due("below 0", x.together(-1), -1);
        Checks.yard(x, "kinds 1;ship 0;voyage 0 0 1 1;x");
        c.due("behind a yard with a fault", x.together(0), 1);
        c.due("its voyage is not there", x.together(1), -1);
    }

    private static void rottenPlanksCountLostOnesDoNot(Checks c) {
        NineTimbers x = Checks.withYard("kinds 1;ship 1;ship 1;plank 0 1 0;plank 0 1 0;voyage 0 0 3 7;voyage 1 0 1 5;voyage 1 5 6 5");
        Checks.move(x, 0, 0, 1, 1);
        c.due("both", x.together(3), 1);
        x.days(-1, 2);
        c.due("lost", x.plank(0, 4), 1);
        c.due("rotten", x.plank(1, 1), 0);
        c.due("a lost plank does not count", x.together(3), 0);
        c.due("a rotten one does", x.together(6), 1);
    }

    private static void planksCountWhereverTheyAre(Checks c) {
        NineTimbers x = Checks.withYard("kinds 1;ship 1;ship 2;plank 0 9 0;plank 0 9 0;voyage 0 0 9 1;voyage 1 0 9 1");
        Checks.move(x, 0, 0);
        c.due("one in another's hull", x.together(2), 1);
        x.days(-1, 1);
        c.due("one at sea", x.together(2), 1);
    }

    private static void voyagesOfAnyDayAndOfLostShips(Checks c) {
        NineTimbers x = Checks.withYard("kinds 1;ship 1;plank 0 1 0;plank 0 9 0;voyage 0 0 3 7;voyage 0 9 10 1");
        Checks.move(x, 0, 0);
        x.days(-1, 20);
        c.due("past ones of a lost ship, with a plank left", x.together(3), 1);
    }

    private static void allEightVoyages(Checks c) {
        StringBuilder text = new StringBuilder("kinds 1;ship 1;plank 0 9 0");
        for (int i = 0; i < 8; i++) {
            text.append(";voyage 0 ").append(i == 7 ? 98 : i).append(' ').append(i == 7 ? 99 : i + 1).append(" 1");
        }
        NineTimbers x = Checks.withYard(text.toString());
        c.due("all", x.together(255), 1);
        c.due("one more", x.together(256), -1);
        NineTimbers y = Checks.withYard(text.toString().replace("98 99", "6 7"));
        c.due("the last two at once", y.together(255), 0);
        c.due("without the last", y.together(127), 1);
        c.due("without the one ahead", y.together(255 - 64), 1);
    }

    private static void noneWithoutThese(Checks c) {
        NineTimbers x = Checks.withYard(Checks.FLEET);
        c.due("all three", x.together(7), 0);
        for (int set : new int[] {8, 9, 15, 255, 256, -1, -8, Integer.MIN_VALUE, Integer.MAX_VALUE}) {
            c.due("set " + set, x.together(set), -1);
        }
        c.due("no voyages at all", Checks.withYard("kinds 1").together(1), -1);
    }

    private static void byWhatIsAskedNothingChanges(Checks c) {
        NineTimbers x = Checks.withYard(Checks.FLEET);
        Checks.move(x, 0, 0);
        int[] before = Seen.of(x);
        for (int set = -1; set <= 8; set++) {
            x.together(set);
        }
        c.unchanged("together", x, before);
    }

    private static void aFullYard(Checks c) {
        NineTimbers x = Checks.withYard(Checks.manyVoyages());
        for (int set = 0; set < 256; set++) {
            c.due("set " + set, x.together(set), 1);
        }
        c.due("no set", x.together(256), -1);
        NineTimbers y = Checks.withYard(Checks.manyVoyages().replace("plank 3 9 5", "plank 2 9 5"));
        c.due("all of day 0", y.together(63), 0);
        c.due("all but one", y.together(255 - 4), 1);
    }
}
