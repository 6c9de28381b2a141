/** Promise 15, willDo: the least ROT that will do for a VOYAGE. */
public final class Promise15WillDoTest {
    public static void main(String[] args) {
        Checks.run(Promise15WillDoTest.class);
    }

    private static int bits(int... planks) {
        int bits = 0;
        for (int plank : planks) {
            bits |= 1 << plank;
        }
        return bits;
    }

    private static void leastRotThatIsAtLeastTheVoyagesDays(Checks c) {
        NineTimbers x = Checks.withYard("kinds 1;ship 1;plank 0 9 0;plank 0 3 0;plank 0 4 0;plank 0 5 0;voyage 0 10 13 1;"
            + "voyage 0 10 14 1;voyage 0 10 15 1;voyage 0 10 16 1;voyage 0 10 19 1;voyage 0 10 20 1");
        c.due("3 days", x.willDo(0), bits(1));
        c.due("4 days", x.willDo(1), bits(2));
        c.due("5 days", x.willDo(2), bits(3));
        c.due("6 days", x.willDo(3), bits(0));
        c.due("9 days", x.willDo(4), bits(0));
        c.due("10 days", x.willDo(5), -2);
    }

    private static void asManyOfEachKindAsSheMustHave(Checks c) {
        NineTimbers x = Checks.withYard("kinds 4;ship 2 0 1 1;plank 3 9 0;plank 0 9 0;plank 0 8 0;plank 0 7 0;plank 1 7 0;"
            + "plank 2 7 0;plank 3 8 0;voyage 0 0 5 1");
        c.due("2 0 1 1", x.willDo(0), bits(2, 3, 5, 6));
    }

    private static void ofSeveralTheLeastNumbers(Checks c) {
        NineTimbers x = Checks.withYard("kinds 1;ship 2;plank 0 9 0;plank 0 5 0;plank 0 5 0;plank 0 5 0;voyage 0 0 5 1");
        c.due("1 and 2", x.willDo(0), bits(1, 2));
    }

    private static void noneNeeded(Checks c) {
        NineTimbers x = Checks.withYard("kinds 1;ship 0;plank 0 9 0;voyage 0 0 5 1");
        c.due("no planks", x.willDo(0), 0);
    }

    private static void tooFew(Checks c) {
        String text = "kinds 2;ship 2 1;voyage 0 0 5 1;plank 0 9 0;plank 0 4 0;plank 1 9 0";
        c.due("one lasts too short", Checks.withYard(text).willDo(0), -2);
        c.due("none at all", Checks.withYard("kinds 1;ship 1;voyage 0 0 1 1").willDo(0), -2);
        c.due("of the last kind", Checks.withYard("kinds 2;ship 0 1;plank 0 9 0;voyage 0 0 1 1").willDo(0), -2);
        c.due("enough", Checks.withYard(text + ";plank 0 5 0").willDo(0), bits(0, 2, 3));
    }

    private static void wheneverAshoreInAnyShip(Checks c) {
        NineTimbers x = Checks.withYard("kinds 1;ship 1;ship 1;plank 0 5 1;plank 0 9 0;voyage 0 9 10 1");
        Checks.move(x, 0, 1);
        c.due("in another ship", x.willDo(0), bits(0));
        Checks.move(x, 0, 0);
        c.due("in her", x.willDo(0), bits(0));
    }

    private static void notAtSea(Checks c) {
        NineTimbers x = Checks.withYard("kinds 1;ship 1;ship 1;plank 0 5 0;plank 0 9 0;voyage 0 0 2 1;voyage 1 9 10 1");
        c.due("at first", x.willDo(1), bits(0));
        Checks.move(x, 0, 0);
        x.days(-1, 1);
        c.due("at sea", x.willDo(1), bits(1));
        c.due("for the one she is on, too", x.willDo(0), bits(1));
        x.days(-1, 2);
        c.due("home", x.willDo(1), bits(0));
    }

    private static void notLost(Checks c) {
        NineTimbers x = Checks.withYard("kinds 1;ship 1;ship 1;plank 0 1 0;plank 0 9 0;voyage 0 0 3 1;voyage 1 9 10 1");
        Checks.move(x, 0, 0, 1, 0);
        x.days(-1, 1);
        c.due("lost", x.plank(1, 4), 1);
        c.due("won't do", x.willDo(1), -2);
    }

    private static void notRotten(Checks c) {
        NineTimbers x = Checks.withYard("kinds 1;ship 1;plank 0 1 0;voyage 0 0 1 1");
        c.due("1 day of rot", x.willDo(0), bits(0));
        Checks.move(x, 0, 0);
        x.days(-1, 2);
        c.due("0", x.willDo(0), -2);
    }

    private static void byRotThatIsLeft(Checks c) {
        NineTimbers x = Checks.withYard("kinds 1;ship 1;plank 0 5 0;plank 0 4 0;voyage 0 0 2 1;voyage 0 9 10 1");
        c.due("4 is the least", x.willDo(1), bits(1));
        Checks.move(x, 0, 0);
        x.days(-1, 3);
        c.due("3 is left of 5", x.willDo(1), bits(0));
    }

    private static void theLastPlankAndTheLongestVoyage(Checks c) {
        NineTimbers x = Checks.withYard("kinds 1;ship 1" + Checks.times(";plank 0 98 0", 23) + ";plank 0 99 0;voyage 0 0 99 1");
        c.due("99 days", x.willDo(0), bits(23));
        NineTimbers y = Checks.withYard("kinds 1;ship 5" + Checks.times(";plank 0 9 0", 19) + Checks.times(";plank 0 8 0", 5)
            + ";voyage 0 0 1 1");
        c.due("the last five", y.willDo(0), bits(19, 20, 21, 22, 23));
    }

    private static void noneWithoutTheVoyage(Checks c) {
        NineTimbers x = Checks.withYard(Checks.FLEET);
        c.due("voyage 2", x.willDo(2) >= 0, true);
        c.due("voyage 3", x.willDo(3), -1);
        c.due("voyage -1", x.willDo(-1), -1);
        c.due("voyage 8", x.willDo(8), -1);
        for (int far : Checks.FAR) {
            c.due("voyage " + far, x.willDo(far), -1);
        }
    }

    private static void byWhatIsAskedNothingChanges(Checks c) {
        NineTimbers x = Checks.withYard(Checks.FLEET);
        Checks.move(x, 0, 0);
        int[] before = Seen.of(x);
        for (int voyage = -1; voyage <= 3; voyage++) {
            x.willDo(voyage);
        }
        c.unchanged("willDo", x, before);
    }

    private static void aFullYard(Checks c) {
        NineTimbers x = Checks.withYard(Checks.manyVoyages().replace("plank 3 9 4", "plank 3 8 4"));
        for (int voyage = 0; voyage < 8; voyage++) {
            c.due("voyage " + voyage, x.willDo(voyage), bits(4));
        }
        NineTimbers y = Checks.withYard(Checks.manyPlanks(9, ";voyage 5 0 9 9;voyage 5 0 10 9"));
        c.due("of 24 the first", y.willDo(0), bits(0));
        c.due("of 24 none", y.willDo(1), -2);
    }
}
