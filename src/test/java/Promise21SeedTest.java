/** Promise 21, seed: x becomes a number. */
public final class Promise21SeedTest {
    public static void main(String[] args) {
        Checks.run(Promise21SeedTest.class);
    }

    private static void answersWhatItWas(Checks c) {
        NineTimbers x = new NineTimbers();
        c.due("0 at first", x.seed(5), 0);
        c.due("5", x.seed(6), 5);
        c.due("6", x.seed(6), 6);
        c.due("x", x.count(10), 6);
    }

    private static void leastAndGreatest(Checks c) {
        NineTimbers x = new NineTimbers();
        x.seed(Integer.MAX_VALUE);
        c.due("greatest", x.count(10), Integer.MAX_VALUE);
        c.due("then", x.seed(0), Integer.MAX_VALUE);
        c.due("least", x.count(10), 0);
        c.due("then", x.seed(1), 0);
    }

    private static void belowZeroNothingHappens(Checks c) {
        NineTimbers x = Checks.withYard(Checks.FLEET);
        x.seed(7);
        int[] before = Seen.of(x);
        c.due("-1", x.seed(-1), -1);
        c.due("least", x.seed(Integer.MIN_VALUE), -1);
        c.unchanged("below 0", x, before);
    }

    private static void withAndWithoutAYard(Checks c) {
        NineTimbers x = new NineTimbers();
        x.seed(8);
        Checks.yard(x, "kinds 1");
        c.due("x stays by a yard", x.seed(9), 8);
        Checks.yard(x, "kinds");
        c.due("and by a fault", x.seed(10), 9);
    }

    private static void daysDoNotDraw(Checks c) {
        NineTimbers x = Checks.withRules(Checks.FLEET, "take 0-rot");
        x.seed(8);
        x.days(0, 9);
        x.ahead(0, 9, 0);
        x.years(0, 3, 9, 50, 0);
        c.due("x", x.count(10), 8);
    }

    private static void seedChangesNothingElse(Checks c) {
        NineTimbers x = Checks.withYard(Checks.FLEET);
        x.seed(3);
        int[] before = Seen.of(x);
        x.seed(4);
        before[10] = 4;
        c.unchanged("seed", x, before);
    }
}
