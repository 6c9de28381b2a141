/** Promises 20 to 22: days ahead, the seed, years drawn. */
public final class ForecastTest {
    public static void main(String[] args) {
        Checks c = new Checks();
        daysAhead(c);
        lostAhead(c);
        wrongAhead(c);
        seeds(c);
        certainYears(c);
        drawnYears(c);
        wrongYears(c);
        nothingStays(c);
        lateDays(c);
        c.close();
    }

    private static void daysAhead(Checks c) {
        NineTimbers x = Checks.withYard(Checks.FLEET);
        Checks.rule(x, "take rot if rot >= length");
        x.move(0, 0);
        c.due("none", x.ahead(0, 0, 0), 0);
        c.due("three days", x.ahead(0, 3, 0), 0);
        c.due("four days", x.ahead(0, 4, 0), 100);
        c.due("moves", x.ahead(0, 4, 2), 2);
        c.due("a hundred days", x.ahead(0, 100, 0), 130);
        c.due("moves", x.ahead(0, 100, 2), 4);
        c.due("nobody moves", x.ahead(-1, 100, 2), 0);
        c.due("nobody earns", x.ahead(-1, 100, 0), 0);
        c.due("lost", x.ahead(0, 100, 1), 0);
        x.days(0, 4);
        c.due("earned so far", x.count(7), 100);
        c.due("only what comes", x.ahead(0, 100, 0), 30);
        c.due("only what comes", x.ahead(0, 100, 2), 2);
    }

    private static void lostAhead(Checks c) {
        NineTimbers x = Checks.withYard("kinds 1;ship 0;ship 1;ship 1;plank 0 2 0;plank 0 1 0;voyage 1 0 3 5;voyage 2 4 6 7");
        Checks.rule(x, "take 0-rot");
        c.due("one day", x.ahead(0, 1, 1), 0);
        c.due("two days", x.ahead(0, 2, 1), 2);
        c.due("five days", x.ahead(0, 5, 1), 6);
        x.days(0, 2);
        c.due("lost before", x.ahead(0, 0, 1), 2);
        c.due("earned", x.ahead(0, 100, 0), 0);
    }

    private static void wrongAhead(Checks c) {
        NineTimbers x = Checks.withYard(Checks.FLEET);
        c.due("no rule", x.ahead(0, 1, 0), -1);
        c.due("rule -2", x.ahead(-2, 1, 0), -1);
        c.due("n -1", x.ahead(-1, -1, 0), -1);
        c.due("n 101", x.ahead(-1, 101, 0), -1);
        c.due("what 3", x.ahead(-1, 1, 3), -1);
        c.due("what -1", x.ahead(-1, 1, -1), -1);
        c.due("n 100", x.ahead(-1, 100, 1), 0);
    }

    private static void seeds(Checks c) {
        NineTimbers x = new NineTimbers();
        c.due("at first", x.seed(5), 0);
        c.due("then", x.seed(Integer.MAX_VALUE), 5);
        c.due("below 0", x.seed(-1), -1);
        c.due("stays", x.count(10), Integer.MAX_VALUE);
        c.due("then", x.seed(0), Integer.MAX_VALUE);
    }

    /** One ship with one plank, always or never rotting more by draws. */
    private static void certainYears(Checks c) {
        String text = "kinds 1;ship 1;plank 0 5 0;voyage 0 0 4 9";
        NineTimbers x = Checks.withYard(text);
        x.move(0, 0);
        c.due("never: all come home", x.years(-1, 20, 100, 0, 0), 180);
        c.due("none is lost", x.years(-1, 20, 100, 0, 1), 0);
        c.due("not yet", x.years(-1, 20, 4, 0, 0), 0);
        c.due("always: rot 5 3 1 and lost", x.years(-1, 3, 100, 100, 0), 0);
        c.due("lost in each year", x.years(-1, 3, 100, 100, 1), 3);
        c.due("two days", x.years(-1, 3, 2, 100, 1), 0);
        c.due("three days", x.years(-1, 3, 3, 100, 1), 3);
    }

    /** Two ships at sea, so that two draws are made a day. */
    private static void drawnYears(Checks c) {
        String text = "kinds 1;ship 1;ship 1;plank 0 6 0;plank 0 6 1;voyage 0 0 4 9;voyage 1 0 5 20";
        for (int seed = 0; seed < 40; seed++) {
            NineTimbers x = Checks.withYard(text);
            x.move(0, 0);
            x.move(1, 1);
            x.seed(seed * 1000003);
            long[] due = draws(seed * 1000003L, 7, 50);
            c.due("earned, seed " + seed, x.years(-1, 7, 9, 50, 0), due[0]);
            c.due("lost, seed " + seed, x.years(-1, 7, 9, 50, 1), due[1]);
            c.due("x", x.count(10), seed * 1000003);
        }
    }

    /** The same two ships, told day by day. */
    private static long[] draws(long x, int years, int p) {
        long earned = 0;
        long lost = 0;
        for (int year = 0; year < years; year++) {
            int[] rot = {6, 6};
            int[] length = {4, 5};
            int[] pay = {9, 20};
            boolean[] gone = new boolean[2];
            for (int day = 0; day < 9; day++) {
                for (int ship = 0; ship < 2; ship++) {
                    if (!gone[ship] && day < length[ship]) {
                        rot[ship]--;
                        gone[ship] = rot[ship] == 0 && day + 1 != length[ship];
                    }
                }
                for (int ship = 0; ship < 2; ship++) {
                    if (!gone[ship] && day < length[ship] && rot[ship] > 0) {
                        x = (x * 1103515245L + 12345L) % 2147483648L;
                        if (x / 65536 % 100 < p && rot[ship] > 1) {
                            rot[ship]--;
                        }
                    }
                }
            }
            for (int ship = 0; ship < 2; ship++) {
                earned += gone[ship] ? 0 : pay[ship];
                lost += gone[ship] ? 1 : 0;
            }
        }
        return new long[] {earned, lost};
    }

    private static void wrongYears(Checks c) {
        NineTimbers x = Checks.withYard(Checks.FLEET);
        c.due("fine", x.years(-1, 1, 1, 0, 0), 0);
        c.due("rule 0", x.years(0, 1, 1, 0, 0), -1);
        c.due("rule -2", x.years(-2, 1, 1, 0, 0), -1);
        c.due("m 0", x.years(-1, 0, 1, 0, 0), -1);
        c.due("m 21", x.years(-1, 21, 1, 0, 0), -1);
        c.due("m 20", x.years(-1, 20, 1, 0, 0), 0);
        c.due("n 0", x.years(-1, 1, 0, 0, 0), -1);
        c.due("n 101", x.years(-1, 1, 101, 0, 0), -1);
        c.due("n 100", x.years(-1, 1, 100, 0, 0), 0);
        c.due("p -1", x.years(-1, 1, 1, -1, 0), -1);
        c.due("p 101", x.years(-1, 1, 1, 101, 0), -1);
        c.due("p 100", x.years(-1, 1, 1, 100, 0), 0);
        c.due("what 2", x.years(-1, 1, 1, 0, 2), -1);
        c.due("what -1", x.years(-1, 1, 1, 0, -1), -1);
    }

    private static void nothingStays(Checks c) {
        NineTimbers x = Checks.withYard(Checks.FLEET);
        Checks.rule(x, "take 0-rot");
        x.seed(99);
        x.move(0, 0);
        x.ahead(0, 100, 0);
        x.years(0, 20, 100, 50, 0);
        int[] counts = {2, 2, 4, 3, 1, 0, 8, 0, 3, 1, 99, 0};
        for (int what = 0; what < counts.length; what++) {
            c.due("count(" + what + ")", x.count(what), counts[what]);
        }
        c.due("rot", x.plank(0, 1), 5);
        c.due("in", x.plank(1, 3), -1);
        c.due("voyage", x.voyage(0, 4), 0);
        c.due("ship", x.ship(0, 0), 0);
    }

    private static void lateDays(Checks c) {
        NineTimbers x = Checks.withYard("kinds 1;ship 0;voyage 0 98 99 7");
        x.days(-1, 98);
        c.due("two days", x.ahead(-1, 2, 0), 7);
        c.due("a year", x.years(-1, 2, 100, 50, 0), 14);
        x.days(-1, 100);
        c.due("day 198", x.count(5), 198);
        c.due("beyond day 200", x.ahead(-1, 100, 0), 0);
        c.due("beyond day 200", x.years(-1, 1, 100, 50, 0), 0);
    }
}
