/** Promise 11, lacks: how many PLANKS of a KIND a SHIP has too few. */
public final class Promise11LacksTest {
    public static void main(String[] args) {
        Checks.run(Promise11LacksTest.class);
    }

    private static void tooFewOfAKind(Checks c) {
        NineTimbers x = Checks.withYard("kinds 4;ship 5 1 0 2" + Checks.times(";plank 0 9 0", 6) + ";plank 3 9 0");
        int[] must = {5, 1, 0, 2};
        for (int kind = 0; kind < 4; kind++) {
            c.due("kind " + kind, x.lacks(0, kind), must[kind]);
        }
        for (int plank = 0; plank < 6; plank++) {
            Checks.move(x, plank, 0);
            c.due("with " + (plank + 1), x.lacks(0, 0), Math.max(0, 4 - plank));
            c.due("kind 1 as before", x.lacks(0, 1), 1);
        }
        Checks.move(x, 6, 0);
        c.due("kind 3", x.lacks(0, 3), 1);
    }

    private static void moreThanEnoughLacks0(Checks c) {
        NineTimbers x = Checks.withYard("kinds 1;ship 1;ship 0;plank 0 9 0;plank 0 9 0");
        Checks.move(x, 0, 0, 1, 0);
        c.due("two of one", x.lacks(0, 0), 0);
        Checks.move(x, 1, 1);
        c.due("one of none", x.lacks(1, 0), 0);
    }

    private static void rottenPlanksDoNotCount(Checks c) {
        NineTimbers x = Checks.withYard("kinds 1;ship 1;plank 0 1 0;voyage 0 0 1 5");
        Checks.move(x, 0, 0);
        c.due("sound", x.lacks(0, 0), 0);
        x.days(-1, 1);
        c.due("at sea", x.lacks(0, 0), 1);
        x.days(-1, 1);
        c.due("home", x.lacks(0, 0), 1);
    }

    private static void planksElsewhereDoNotCount(Checks c) {
        NineTimbers x = Checks.withYard("kinds 1;ship 1;ship 1;plank 0 9 0;plank 0 9 0");
        Checks.move(x, 0, 1);
        c.due("another's hull and the heap", x.lacks(0, 0), 1);
        c.due("whosever it is", x.lacks(1, 0), 0);
    }

    private static void noneWithoutTheShipOrTheKind(Checks c) {
        for (int kinds = 1; kinds <= 4; kinds++) {
            NineTimbers x = Checks.withYard("kinds " + kinds + ";ship" + Checks.times(" 2", kinds));
            c.due("the last kind", x.lacks(0, kinds - 1), 2);
            c.due("kind " + kinds, x.lacks(0, kinds), -1);
            c.due("kind -1", x.lacks(0, -1), -1);
            c.due("ship 1", x.lacks(1, 0), -1);
            c.due("ship -1", x.lacks(-1, 0), -1);
            for (int far : Checks.FAR) {
                c.due("ship " + far, x.lacks(far, 0), -1);
                c.due("kind " + far, x.lacks(0, far), -1);
            }
        }
    }

    private static void byWhatIsAskedNothingChanges(Checks c) {
        NineTimbers x = Checks.withYard(Checks.FLEET);
        Checks.move(x, 0, 0);
        int[] before = Seen.of(x);
        x.lacks(0, 0);
        x.lacks(1, 1);
        x.lacks(2, 2);
        c.unchanged("lacks", x, before);
    }
}
