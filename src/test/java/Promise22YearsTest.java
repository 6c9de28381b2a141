/** Promise 22, years: m times n DAYS with DRAWS. */
public final class Promise22YearsTest {
    public static void main(String[] args) {
        Checks.run(Promise22YearsTest.class);
    }

    private static long next(long x) {
        return (x * 1103515245L + 12345L) % 2147483648L;
    }

    /** A ship of one plank with 3 ROT on a voyage of 3 days: lost if the first DRAW rots it, else home. */
    private static NineTimbers brittle() {
        NineTimbers x = Checks.withYard("kinds 1;ship 1;plank 0 3 0;voyage 0 0 3 9");
        Checks.move(x, 0, 0);
        return x;
    }

    private static void aDrawModulo100BelowP(Checks c) {
        long[] seeds = {0, 1, 2, 65535, 65536, 99999, 12345678, 1073741824, 2147483646, 2147483647};
        for (long seed : seeds) {
            NineTimbers x = brittle();
            x.seed((int) seed);
            int draw = (int) (next(seed) / 65536 % 100);
            c.due("p is the draw of seed " + seed, x.years(-1, 1, 9, draw, 1), 0);
            c.due("p is one more", x.years(-1, 1, 9, draw + 1, 1), 1);
            c.due("earned", x.years(-1, 1, 9, draw, 0), 9);
            c.due("not earned", x.years(-1, 1, 9, draw + 1, 0), 0);
        }
    }

    private static void theDrawIsXBy65536(Checks c) {
        NineTimbers x = brittle();
        c.due("x is 12345, the draw 0: p 0", x.years(-1, 1, 9, 0, 1), 0);
        c.due("p 1", x.years(-1, 1, 9, 1, 1), 1);
        x.seed(12345);
        c.due("x is 1406932606, the draw 21468: p 68", x.years(-1, 1, 9, 68, 1), 0);
        c.due("p 69", x.years(-1, 1, 9, 69, 1), 1);
    }

    private static void p0NeverP100Always(Checks c) {
        for (int seed = 0; seed < 20; seed++) {
            NineTimbers x = brittle();
            x.seed(seed * 104729);
            c.due("never", x.years(-1, 20, 9, 0, 1), 0);
            c.due("never: all is earned", x.years(-1, 20, 9, 0, 0), 180);
            c.due("always", x.years(-1, 20, 9, 100, 1), 20);
            c.due("always: nothing is earned", x.years(-1, 20, 9, 100, 0), 0);
        }
    }

    private static void oneLessOnlyIfItHasMoreThan1(Checks c) {
        NineTimbers x = Checks.withYard("kinds 1;ship 1;plank 0 2 0;voyage 0 0 2 9");
        Checks.move(x, 0, 0);
        c.due("1 left on the first day stays", x.years(-1, 4, 9, 100, 0), 36);
        NineTimbers y = Checks.withYard("kinds 1;ship 1;plank 0 5 0;voyage 0 0 3 9");
        Checks.move(y, 0, 0);
        c.due("5: 4 3, 2 1, 0 and home", y.years(-1, 4, 9, 100, 0), 36);
        NineTimbers z = Checks.withYard("kinds 1;ship 1;plank 0 4 0;voyage 0 0 3 9");
        Checks.move(z, 0, 0);
        c.due("4: 3 2, 1, 0 and home", z.years(-1, 4, 9, 100, 0), 36);
        c.due("3: 2 1, 0 and lost", brittle().years(-1, 4, 9, 100, 1), 4);
    }

    private static void herFirstSoundPlank(Checks c) {
        String text = "kinds 1;ship 2;plank 0 9 0;plank 0 3 0;voyage 0 0 3 9";
        NineTimbers x = Checks.withYard(text);
        Checks.move(x, 0, 0, 1, 0);
        c.due("plank 0 has enough", x.years(-1, 3, 9, 100, 0), 27);
        NineTimbers y = Checks.withYard(text.replace("0 9 0;plank 0 3 0", "0 3 0;plank 0 9 0"));
        Checks.move(y, 0, 0, 1, 0);
        c.due("plank 0 has too few", y.years(-1, 3, 9, 100, 1), 3);
    }

    private static void aRottenPlankIsNotHerFirst(Checks c) {
        NineTimbers x = Checks.withYard("kinds 1;ship 1;plank 0 1 0;plank 0 4 0;voyage 0 0 1 5;voyage 0 2 5 9");
        Checks.move(x, 0, 0, 1, 0);
        x.days(-1, 2);
        c.due("rotten", x.plank(0, 1), 0);
        c.due("3 left of plank 1", x.plank(1, 1), 3);
        c.due("plank 1 rots by draws", x.years(-1, 2, 9, 100, 1), 2);
        c.due("never", x.years(-1, 2, 9, 0, 0), 18);
    }

    /** Ships of one plank each, told day by day; a length of 0 is a ship ashore, a ROT of 0 a ship without planks. */
    private static long[] told(long x, int years, int days, int p, int[] rots, int[] lengths, int[] pays) {
        long earned = 0;
        long lost = 0;
        for (int year = 0; year < years; year++) {
            int[] rot = rots.clone();
            boolean[] gone = new boolean[rot.length];
            for (int day = 0; day < days; day++) {
                for (int ship = 0; ship < rot.length; ship++) {
                    if (!gone[ship] && day < lengths[ship] && rot[ship] > 0) {
                        rot[ship]--;
                        gone[ship] = rot[ship] == 0 && day + 1 != lengths[ship];
                    }
                }
                for (int ship = 0; ship < rot.length; ship++) {
                    if (!gone[ship] && day < lengths[ship] && rot[ship] > 0) {
                        x = next(x);
                        rot[ship] -= x / 65536 % 100 < p && rot[ship] > 1 ? 1 : 0;
                    }
                }
            }
            for (int ship = 0; ship < rot.length; ship++) {
                earned += !gone[ship] && lengths[ship] > 0 && days > lengths[ship] ? pays[ship] : 0;
                lost += gone[ship] ? 1 : 0;
            }
        }
        return new long[] {earned, lost};
    }

    private static void drawsGoByShipsAndOnFromYearToYear(Checks c) {
        for (int seed = 0; seed < 40; seed++) {
            NineTimbers x = Checks.withYard("kinds 1;ship 1;ship 1;plank 0 6 0;plank 0 6 1;voyage 0 0 4 9;voyage 1 0 5 20");
            Checks.move(x, 0, 0, 1, 1);
            x.seed(seed * 1000003);
            long[] due = told(seed * 1000003L, 7, 9, 50, new int[] {6, 6}, new int[] {4, 5}, new int[] {9, 20});
            c.due("earned, seed " + seed, x.years(-1, 7, 9, 50, 0), due[0]);
            c.due("lost, seed " + seed, x.years(-1, 7, 9, 50, 1), due[1]);
        }
    }

    private static void noDrawForShipsAshoreLostOrWithoutAPlank(Checks c) {
        for (int seed = 0; seed < 40; seed++) {
            NineTimbers x = Checks.withYard("kinds 1;ship 0;ship 1;ship 1;ship 1;plank 0 2 0;plank 0 9 0;plank 0 6 0;voyage 0 0 9 5;"
                + "voyage 1 0 5 7;voyage 3 0 4 8");
            Checks.move(x, 0, 1, 1, 2, 2, 3);
            x.seed(seed * 7000007);
            long[] due = told(seed * 7000007L, 9, 20, 40, new int[] {0, 2, 9, 6}, new int[] {9, 5, 0, 4}, new int[] {5, 7, 0, 8});
            c.due("earned, seed " + seed, x.years(-1, 9, 20, 40, 0), due[0]);
            c.due("lost, seed " + seed, x.years(-1, 9, 20, 40, 1), due[1]);
        }
    }

    private static void eachYearBeginsAsItIsNow(Checks c) {
        NineTimbers x = Checks.withYard("kinds 1;ship 1;plank 0 9 0;voyage 0 0 2 5;voyage 0 4 6 7");
        Checks.move(x, 0, 0);
        c.due("both voyages", x.years(-1, 3, 20, 0, 0), 36);
        x.days(-1, 3);
        c.due("the first is past", x.years(-1, 3, 20, 0, 0), 21);
        x.days(-1, 9);
        c.due("both are past", x.years(-1, 3, 20, 0, 0), 0);
    }

    private static void shipsLostBeforeAreLostThen(Checks c) {
        NineTimbers x = Checks.withYard("kinds 1;ship 1;plank 0 1 0;voyage 0 0 3 5");
        Checks.move(x, 0, 0);
        x.days(-1, 1);
        c.due("lost", x.ship(0, 0), 2);
        c.due("in each of 6 years", x.years(-1, 6, 1, 0, 1), 6);
    }

    private static void byARule(Checks c) {
        NineTimbers x = Checks.withRules("kinds 1;ship 1;plank 0 3 0;plank 0 5 0;voyage 0 0 3 9", "take rot", "take 0-rot");
        c.due("the brittle one", x.years(0, 5, 9, 100, 1), 5);
        c.due("the other", x.years(1, 5, 9, 100, 0), 45);
        c.due("nobody sails", x.years(-1, 5, 9, 100, 0), 0);
    }

    private static void nDaysOnly(Checks c) {
        NineTimbers x = brittle();
        c.due("three days", x.years(-1, 2, 3, 0, 0), 0);
        c.due("four days", x.years(-1, 2, 4, 0, 0), 18);
        c.due("one day", x.years(-1, 2, 1, 100, 1), 0);
        c.due("two days", x.years(-1, 2, 2, 100, 1), 2);
    }

    private static void leastAndGreatestNumbers(Checks c) {
        NineTimbers x = Checks.withRules("kinds 1;ship 0;ship 1;voyage 0 0 1 999;voyage 0 98 99 1", "take rot");
        c.due("all the least", x.years(-1, 1, 1, 0, 0), 0);
        c.due("all the greatest", x.years(0, 20, 100, 100, 0), 20000);
        c.due("99 days", x.years(0, 20, 99, 100, 0), 19980);
        c.due("m 0", x.years(0, 0, 1, 0, 0), -1);
        c.due("m 21", x.years(0, 21, 1, 0, 0), -1);
        c.due("n 0", x.years(0, 1, 0, 0, 0), -1);
        c.due("n 101", x.years(0, 1, 101, 0, 0), -1);
        c.due("p -1", x.years(0, 1, 1, -1, 0), -1);
        c.due("p 101", x.years(0, 1, 1, 101, 0), -1);
        c.due("what -1", x.years(0, 1, 1, 0, -1), -1);
        c.due("what 1", x.years(0, 1, 1, 0, 1), 0);
        c.due("what 2", x.years(0, 1, 1, 0, 2), -1);
        c.due("rule 1", x.years(1, 1, 1, 0, 0), -1);
        c.due("rule -2", x.years(-2, 1, 1, 0, 0), -1);
    }

    private static void farNumbers(Checks c) {
        NineTimbers x = Checks.withRules(Checks.FLEET, "take rot");
        for (int far : new int[] {Integer.MIN_VALUE, -100, 1000, Integer.MAX_VALUE}) {
            c.due("rule " + far, x.years(far, 1, 1, 0, 0), -1);
            c.due("m " + far, x.years(0, far, 1, 0, 0), -1);
            c.due("n " + far, x.years(0, 1, far, 0, 0), -1);
            c.due("p " + far, x.years(0, 1, 1, far, 0), -1);
            c.due("what " + far, x.years(0, 1, 1, 0, far), -1);
        }
    }

    private static void noneWithoutAYard(Checks c) {
        NineTimbers x = new NineTimbers();
        Checks.rule(x, "take rot");
        c.due("by a rule", x.years(0, 1, 1, 0, 0), -1);
        c.due("by none", x.years(-1, 1, 1, 0, 1), -1);
    }

    private static void lateDays(Checks c) {
        NineTimbers x = Checks.withYard("kinds 1;ship 0;voyage 0 98 99 7");
        x.days(-1, 98);
        c.due("day 98", x.years(-1, 2, 100, 50, 0), 14);
        x.days(-1, 100);
        c.due("beyond day 200", x.years(-1, 2, 100, 50, 0), 0);
        c.due("day", x.count(5), 198);
    }

    private static void nothingStaysAndXIsAsItWas(Checks c) {
        NineTimbers x = Checks.withRules(Checks.FLEET, "take 0-rot");
        x.seed(99);
        Checks.move(x, 0, 0);
        x.image(0);
        int[] before = Seen.of(x);
        int earned = x.years(0, 20, 100, 50, 0);
        x.years(0, 20, 100, 50, 1);
        x.years(0, 21, 100, 50, 1);
        c.unchanged("years", x, before);
        c.due("the same again", x.years(0, 20, 100, 50, 0), earned);
        x.back(0);
        c.unchanged("nor has the image changed", x, before);
    }

    private static void aFullYard(Checks c) {
        NineTimbers x = Checks.withRules(Checks.manyVoyages(), "take plank");
        c.due("earned", x.years(0, 20, 100, 0, 0), 720);
        c.due("lost", x.years(0, 20, 100, 100, 1), 0);
        NineTimbers y = Checks.withRules(Checks.manyPlanks(5, ";voyage 5 0 4 5;voyage 3 0 4 5;voyage 0 0 1 7"), "take 0-plank");
        c.due("lost", y.years(0, 20, 100, 100, 1), 40);
        c.due("earned", y.years(0, 20, 100, 100, 0), 140);
        c.due("never", y.years(0, 20, 100, 0, 0), 340);
    }

    private static void noSoundPlankAmongTwentyFour(Checks c) {
        NineTimbers x = Checks.withRules(Checks.manyPlanks(1, ";voyage 5 0 1 5"), "take 0-plank");
        c.due("earned", x.years(0, 20, 100, 100, 0), 100);
        c.due("lost", x.years(0, 20, 100, 100, 1), 0);
    }
}
