/** Promise 8, voyage: what is told of a VOYAGE. */
public final class Promise08VoyageTest {
    public static void main(String[] args) {
        Checks.run(Promise08VoyageTest.class);
    }

    private static void asTold(Checks c) {
        NineTimbers x = Checks.withYard("kinds 1;ship 1;ship 1;voyage 1 0 1 999;voyage 0 98 99 0;voyage 1 0 99 7");
        int[][] due = {{1, 0, 1, 999, 0}, {0, 98, 99, 0, 0}, {1, 0, 99, 7, 0}};
        for (int voyage = 0; voyage < 3; voyage++) {
            for (int what = 0; what <= 4; what++) {
                c.due("voyage(" + voyage + "," + what + ")", x.voyage(voyage, what), due[voyage][what]);
            }
        }
    }

    private static void notBegunAtSeaEarned(Checks c) {
        NineTimbers x = Checks.withYard("kinds 1;ship 0;voyage 0 1 3 5");
        int[] due = {0, 0, 1, 1, 2, 2};
        for (int day = 0; day < due.length; day++) {
            c.due("on day " + day, x.voyage(0, 4), due[day]);
            x.days(-1, 1);
        }
    }

    private static void lost(Checks c) {
        NineTimbers x = Checks.withYard("kinds 1;ship 1;plank 0 2 0;voyage 0 0 3 5;voyage 0 5 6 5");
        Checks.move(x, 0, 0);
        x.days(-1, 1);
        c.due("at sea", x.voyage(0, 4), 1);
        x.days(-1, 1);
        c.due("lost", x.voyage(0, 4), 3);
        x.days(-1, 8);
        c.due("lost for ever", x.voyage(0, 4), 3);
        c.due("a later one of hers never begins", x.voyage(1, 4), 0);
    }

    private static void oneThatCouldNotBeginStaysNotBegun(Checks c) {
        NineTimbers x = Checks.withYard("kinds 1;ship 1;ship 0;voyage 0 0 3 5;voyage 1 0 9 5;voyage 1 3 5 5");
        x.days(-1, 20);
        c.due("she was not whole", x.voyage(0, 4), 0);
        c.due("earned", x.voyage(1, 4), 2);
        c.due("she was at sea", x.voyage(2, 4), 0);
    }

    private static void earnedWithPay0(Checks c) {
        NineTimbers x = Checks.withYard("kinds 1;ship 0;voyage 0 0 1 0");
        x.days(-1, 2);
        c.due("earned", x.voyage(0, 4), 2);
    }

    private static void whatWasToldStays(Checks c) {
        NineTimbers x = Checks.withYard("kinds 1;ship 0;voyage 0 1 3 5");
        x.days(-1, 10);
        int[] due = {0, 1, 3, 5};
        for (int what = 0; what < due.length; what++) {
            c.due("what " + what, x.voyage(0, what), due[what]);
        }
    }

    private static void noneWithoutTheVoyage(Checks c) {
        NineTimbers x = Checks.withYard(Checks.FLEET);
        for (int what = -1; what <= 5; what++) {
            c.due("voyage -1", x.voyage(-1, what), -1);
            c.due("voyage 3", x.voyage(3, what), -1);
            c.due("voyage 8", x.voyage(8, what), -1);
        }
        for (int far : Checks.FAR) {
            c.due("voyage " + far, x.voyage(far, 0), -1);
        }
    }

    private static void noneWithoutTheWhat(Checks c) {
        NineTimbers x = Checks.withYard(Checks.FLEET);
        c.due("what -1", x.voyage(0, -1), -1);
        c.due("what 5", x.voyage(0, 5), -1);
        for (int far : Checks.FAR) {
            c.due("what " + far, x.voyage(0, far), -1);
        }
    }

    private static void theLastVoyage(Checks c) {
        NineTimbers x = Checks.withYard("kinds 1;ship 0" + Checks.times(";voyage 0 0 1 3", 7) + ";voyage 0 97 98 4");
        c.due("voyage 7", x.voyage(7, 3), 4);
        c.due("voyage 8", x.voyage(8, 3), -1);
        x.days(-1, 98);
        c.due("at sea", x.voyage(7, 4), 1);
    }

    private static void byWhatIsAskedNothingChanges(Checks c) {
        NineTimbers x = Checks.withYard(Checks.FLEET);
        Checks.move(x, 0, 0);
        int[] before = Seen.of(x);
        for (int what = -1; what <= 5; what++) {
            x.voyage(0, what);
            x.voyage(3, what);
        }
        c.unchanged("voyage", x, before);
    }
}
