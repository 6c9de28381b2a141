/** Promise 23, count: twelve numbers. */
public final class Promise23CountTest {
    public static void main(String[] args) {
        Checks.run(Promise23CountTest.class);
    }

    private static void all(Checks c, String when, NineTimbers x, int... due) {
        for (int what = 0; what < due.length; what++) {
            c.due(when + ", count(" + what + ")", x.count(what), due[what]);
        }
    }

    private static void ofANewObject(Checks c) {
        all(c, "new", new NineTimbers(), 0, 0, 0, 0, 0, 0, 0, 0, 0, 0, 0, 0);
    }

    private static void ofAYard(Checks c) {
        NineTimbers x = Checks.withYard(Checks.FLEET);
        all(c, "told", x, 2, 2, 4, 3, 0, 0, 9, 0, 4, 0, 0, 0);
    }

    private static void ofTheLeastAndTheGreatestYard(Checks c) {
        all(c, "least", Checks.withYard("kinds 1"), 1, 0, 0, 0, 0, 0, 30, 0, 0, 0, 0, 0);
        NineTimbers x = Checks.withYard("kinds 1" + Checks.times(";ship 0", 6) + Checks.times(";plank 0 1 0", 24));
        all(c, "many planks", x, 1, 6, 24, 0, 0, 0, 30, 0, 24, 0, 0, 0);
        NineTimbers y = Checks.withYard("kinds 4" + Checks.times(";ship 0 0 0 0", 6) + Checks.times(";voyage 5 0 1 9", 8) + ";hands 1");
        all(c, "many voyages", y, 4, 6, 0, 8, 0, 0, 1, 0, 0, 0, 0, 0);
    }

    private static void asDaysGoBy(Checks c) {
        NineTimbers x = Checks.withRules(Checks.FLEET, "take rot if rot>=length");
        x.seed(6);
        Checks.move(x, 0, 0);
        all(c, "moved", x, 2, 2, 4, 3, 1, 0, 8, 0, 3, 1, 6, 0);
        x.days(0, 1);
        all(c, "day 1", x, 2, 2, 4, 3, 1, 1, 9, 0, 1, 3, 6, 0);
        x.days(0, 3);
        all(c, "day 4", x, 2, 2, 4, 3, 1, 4, 9, 100, 1, 3, 6, 0);
        x.feed(0, 0, 0, 0, 0);
        x.days(0, 4);
        all(c, "day 8", x, 2, 2, 4, 3, 1, 8, 9, 130, 0, 5, 6, 20);
    }

    private static void rules0To6(Checks c) {
        NineTimbers x = new NineTimbers();
        for (int i = 0; i < 6; i++) {
            c.due("rules", x.count(4), i);
            Checks.rule(x, "take " + i);
        }
        c.due("six", x.count(4), 6);
        Checks.put(x, "take 1");
        x.rule();
        c.due("six still", x.count(4), 6);
    }

    private static void day0To200(Checks c) {
        NineTimbers x = Checks.withYard("kinds 1");
        x.days(-1, 100);
        c.due("day", x.count(5), 100);
        x.days(-1, 100);
        c.due("day", x.count(5), 200);
    }

    private static void handsLeftOnThatDay(Checks c) {
        NineTimbers x = Checks.withYard("kinds 1;ship 1;plank 0 9 0;hands 3");
        for (int left = 3; left > 0; left--) {
            c.due("left", x.count(6), left);
            Checks.move(x, 0, left % 2 == 1 ? 0 : -1);
        }
        c.due("none left", x.count(6), 0);
        x.days(-1, 1);
        c.due("anew", x.count(6), 3);
        c.due("without a yard", new NineTimbers().count(6), 0);
    }

    private static void earnedInAllIsWhatAllShipsEarned(Checks c) {
        NineTimbers x = Checks.withRules(Checks.FLEET, "take rot if rot>=length");
        x.days(0, 20);
        c.due("130", x.count(7), 130);
        c.due("all ships", x.ship(0, 3) + x.ship(1, 3), 130);
        NineTimbers y = Checks.withYard("kinds 1;ship 0" + times8());
        y.days(-1, 30);
        c.due("the most that can be earned", y.count(7), 7992);
    }

    private static String times8() {
        StringBuilder text = new StringBuilder();
        for (int i = 0; i < 8; i++) {
            text.append(";voyage 0 ").append(i).append(' ').append(i + 1).append(" 999");
        }
        return text.toString();
    }

    private static void planksOnTheHeap(Checks c) {
        NineTimbers x = Checks.withYard("kinds 1;ship 0" + Checks.times(";plank 0 9 0", 24));
        for (int plank = 0; plank < 24; plank++) {
            c.due("heap", x.count(8), 24 - plank);
            Checks.move(x, plank, 0);
        }
        c.due("none", x.count(8), 0);
        Checks.move(x, 7, -1);
        c.due("one", x.count(8), 1);
    }

    private static void movesInAllByHandAndByRules(Checks c) {
        NineTimbers x = Checks.withRules("kinds 1;ship 1;ship 1;plank 0 9 0;voyage 0 1 2 5;voyage 1 3 4 5", "take rot");
        Checks.move(x, 0, 0, 0, -1);
        c.due("by hand", x.count(9), 2);
        x.days(0, 2);
        c.due("by a rule, too", x.count(9), 3);
        x.days(0, 2);
        c.due("and again", x.count(9), 4);
        x.move(0, 5);
        c.due("not a refused one", x.count(9), 4);
    }

    private static void bytesOfTheTape(Checks c) {
        NineTimbers x = new NineTimbers();
        for (int n = 20; n <= 400; n += 20) {
            x.feed(1, 2, 3, 4, 5);
            c.due("bytes", x.count(11), n);
        }
        x.feed(1, 2, 3, 4, 5);
        c.due("full", x.count(11), 400);
        x.end(399);
        c.due("cut", x.count(11), 399);
        x.yard();
        c.due("read", x.count(11), 0);
    }

    private static void noneForOthers(Checks c) {
        NineTimbers x = Checks.withYard(Checks.FLEET);
        c.due("-1", x.count(-1), -1);
        c.due("12", x.count(12), -1);
        c.due("without a yard", new NineTimbers().count(12), -1);
        for (int far : Checks.FAR) {
            c.due("what " + far, x.count(far), -1);
        }
    }

    private static void byWhatIsAskedNothingChanges(Checks c) {
        NineTimbers x = Checks.withYard(Checks.FLEET);
        Checks.move(x, 0, 0);
        int[] before = Seen.of(x);
        for (int what = -1; what <= 12; what++) {
            x.count(what);
        }
        c.unchanged("count", x, before);
    }
}
