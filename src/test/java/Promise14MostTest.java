/** Promise 14, most: the set of VOYAGES that can be with most PAY. */
public final class Promise14MostTest {
    public static void main(String[] args) {
        Checks.run(Promise14MostTest.class);
    }

    private static void most(Checks c, String text, int pay, int set) {
        NineTimbers x = Checks.withYard(text);
        c.due("pay of '" + text + "'", x.most(0), pay);
        c.due("set of '" + text + "'", x.most(1), set);
    }

    private static void mostPayOfThoseThatCanBe(Checks c) {
        most(c, Checks.FLEET, 130, 5);
        most(c, "kinds 1;ship 1;ship 1;plank 0 9 0;voyage 0 0 4 10;voyage 1 0 2 6;voyage 1 2 4 6", 12, 6);
        most(c, "kinds 1;ship 1;ship 1;plank 0 9 0;voyage 0 0 4 13;voyage 1 0 2 6;voyage 1 2 4 6", 13, 1);
        most(c, "kinds 1;ship 1;ship 1;plank 0 9 0;plank 0 9 0;voyage 0 0 4 13;voyage 1 0 2 6;voyage 1 2 4 6", 25, 7);
    }

    private static void ofSeveralTheFewestVoyages(Checks c) {
        most(c, "kinds 1;ship 1;plank 0 5 0;voyage 0 0 2 5;voyage 0 2 4 5;voyage 0 0 4 10", 10, 4);
        most(c, "kinds 1;ship 1;plank 0 5 0;voyage 0 0 2 5;voyage 0 2 4 0", 5, 1);
    }

    private static void thenTheLeastAsBits(Checks c) {
        most(c, "kinds 1;ship 1;ship 1;plank 0 5 0;voyage 0 0 4 10;voyage 1 0 4 10;voyage 1 1 4 10", 10, 1);
        most(c, "kinds 1;ship 1;plank 0 5 0;voyage 0 0 2 3;voyage 0 0 2 7;voyage 0 2 4 3;voyage 0 2 4 7;voyage 0 0 2 7", 14, 10);
    }

    private static void noPayNoVoyage(Checks c) {
        most(c, "kinds 1;ship 1;plank 0 5 0;voyage 0 0 2 0", 0, 0);
        most(c, "kinds 1", 0, 0);
        most(c, "kinds 1;ship 1;voyage 0 0 2 50", 0, 0);
    }

    private static void allEight(Checks c) {
        StringBuilder text = new StringBuilder("kinds 1;ship 1;plank 0 9 0");
        for (int i = 0; i < 8; i++) {
            text.append(";voyage 0 ").append(2 * i).append(' ').append(2 * i + 2).append(" 999");
        }
        most(c, text.toString(), 7992, 255);
        most(c, text.toString().replace("plank", "ship 0;plank"), 7992, 255);
        most(c, text.toString().replace("plank 0 9 0;", ""), 0, 0);
    }

    private static void afterALossWithFewerPlanks(Checks c) {
        NineTimbers x = Checks.withYard("kinds 1;ship 1;ship 1;plank 0 1 0;plank 0 1 0;voyage 0 0 3 7;voyage 1 0 1 5;voyage 1 5 6 5");
        Checks.move(x, 0, 0, 1, 1);
        c.due("all", x.most(1), 7);
        x.days(-1, 2);
        c.due("pay", x.most(0), 12);
        c.due("set", x.most(1), 5);
    }

    private static void noneWithoutTheWhat(Checks c) {
        NineTimbers x = Checks.withYard(Checks.FLEET);
        c.due("what 2", x.most(2), -1);
        c.due("what -1", x.most(-1), -1);
        for (int far : Checks.FAR) {
            c.due("what " + far, x.most(far), -1);
        }
    }

    private static void noneWithoutAYard(Checks c) {
        NineTimbers x = new NineTimbers();
        c.due("pay", x.most(0), -1);
        c.due("set", x.most(1), -1);
    }

    private static void byWhatIsAskedNothingChanges(Checks c) {
        NineTimbers x = Checks.withYard(Checks.FLEET);
        Checks.move(x, 0, 0);
        int[] before = Seen.of(x);
        for (int what = -1; what <= 2; what++) {
            x.most(what);
        }
        c.unchanged("most", x, before);
    }

    private static void pay1IsMoreThanNone(Checks c) {
        most(c, "kinds 1;ship 0;voyage 0 0 2 1", 1, 1);
        most(c, "kinds 1;ship 1;ship 0;voyage 0 0 2 9;voyage 1 0 2 1", 1, 2);
    }

    private static void aFullYard(Checks c) {
        most(c, Checks.manyVoyages(), 36, 255);
        most(c, Checks.manyVoyages().replace("plank 3 9 5", "plank 2 9 5"), 35, 254);
    }
}
