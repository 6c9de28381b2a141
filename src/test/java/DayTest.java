/** Promises 6 to 11: ships, planks and voyages as days go by; moves by hand and by rules. */
public final class DayTest {
    public static void main(String[] args) {
        Checks c = new Checks();
        byHand(c);
        handsOfADay(c);
        mayNotMove(c);
        wrongDays(c);
        lastDay(c);
        voyageOfAShip(c);
        parts(c);
        lastPlankRots(c);
        lostAtSea(c);
        byARule(c);
        fromOtherShips(c);
        handsOfARule(c);
        notWhole(c);
        twoVoyagesOnADay(c);
        homeAndOutOnADay(c);
        lacking(c);
        c.close();
    }

    private static void byHand(Checks c) {
        NineTimbers x = Checks.withYard(Checks.FLEET);
        c.due("to a ship", x.move(1, 0), true);
        c.due("in", x.plank(1, 3), 0);
        c.due("is there", x.move(1, 0), false);
        c.due("on the heap already", x.move(2, -1), false);
        c.due("to another", x.move(1, 1), true);
        c.due("to the heap", x.move(1, -1), true);
        c.due("in", x.plank(1, 3), -1);
        c.due("hands", x.count(6), 6);
        c.due("moves", x.count(9), 3);
        c.due("heap", x.count(8), 4);
        c.due("no plank", x.move(4, 0), false);
        c.due("no plank", x.move(-1, 0), false);
        c.due("no ship", x.move(0, 2), false);
        c.due("no ship", x.move(0, -2), false);
        c.due("moves", x.count(9), 3);
        x.move(0, 1);
        x.move(2, 1);
        c.due("whole", x.ship(1, 2), 1);
        c.due("sound", x.ship(1, 1), 2);
        c.due("not whole", x.ship(0, 2), 0);
        c.due("heap", x.count(8), 2);
    }

    private static void handsOfADay(Checks c) {
        NineTimbers x = Checks.withYard("kinds 1;ship 1;plank 0 5 0;plank 0 5 0;plank 0 5 0;hands 2");
        c.due("1", x.move(0, 0), true);
        c.due("2", x.move(1, 0), true);
        c.due("none left", x.move(2, 0), false);
        c.due("hands", x.count(6), 0);
        c.due("days", x.days(-1, 1), 1);
        c.due("hands", x.count(6), 2);
        c.due("3", x.move(2, 0), true);
        c.due("moves", x.count(9), 3);
    }

    private static void mayNotMove(Checks c) {
        NineTimbers x = Checks.withYard("kinds 1;ship 1;ship 1;plank 0 2 0;plank 0 9 0;plank 0 9 1;voyage 0 0 2 7;"
            + "voyage 1 0 5 9;voyage 0 3 9 9");
        x.move(0, 0);
        x.move(1, 1);
        x.days(-1, 1);
        c.due("at sea", x.ship(0, 0), 1);
        c.due("from a ship at sea", x.move(0, -1), false);
        c.due("to a ship at sea", x.move(2, 1), false);
        x.days(-1, 2);
        c.due("ashore", x.ship(0, 0), 0);
        c.due("rotten", x.plank(0, 1), 0);
        c.due("a rotten one", x.move(0, -1), false);
        c.due("still in", x.plank(0, 3), 0);
        c.due("sound", x.ship(0, 1), 0);
        c.due("hands", x.count(6), 30);
        c.due("to her", x.move(2, 0), true);
    }

    private static void wrongDays(Checks c) {
        NineTimbers x = Checks.withYard(Checks.FLEET);
        c.due("no rule", x.days(0, 1), -1);
        c.due("rule -2", x.days(-2, 1), -1);
        c.due("n 0", x.days(-1, 0), -1);
        c.due("n 101", x.days(-1, 101), -1);
        c.due("n most", x.days(-1, Integer.MAX_VALUE), -1);
        c.due("n least", x.days(-1, Integer.MIN_VALUE), -1);
        c.due("day", x.count(5), 0);
        Checks.rule(x, "take 0-rot");
        c.due("rule 1", x.days(1, 1), -1);
        c.due("rule 0", x.days(0, 1), 1);
    }

    private static void lastDay(Checks c) {
        NineTimbers x = Checks.withYard("kinds 1");
        c.due("100", x.days(-1, 100), 100);
        c.due("199", x.days(-1, 99), 199);
        c.due("201", x.days(-1, 2), -1);
        c.due("day", x.count(5), 199);
        c.due("200", x.days(-1, 1), 200);
        c.due("201", x.days(-1, 1), -1);
        c.due("day", x.count(5), 200);
    }

    private static void voyageOfAShip(Checks c) {
        NineTimbers x = Checks.withYard("kinds 1;ship 1;ship 0;plank 0 9 1;voyage 0 1 4 101");
        x.move(0, 0);
        c.due("day 1", x.days(-1, 1), 1);
        c.due("ashore", x.ship(0, 0), 0);
        c.due("on", x.ship(0, 4), -1);
        c.due("not begun", x.voyage(0, 4), 0);
        x.days(-1, 1);
        c.due("at sea", x.ship(0, 0), 1);
        c.due("on", x.ship(0, 4), 0);
        c.due("at sea", x.voyage(0, 4), 1);
        c.due("rot", x.plank(0, 1), 8);
        x.days(-1, 2);
        c.due("day 4, still at sea", x.ship(0, 0), 1);
        c.due("rot", x.plank(0, 1), 6);
        c.due("earned", x.count(7), 0);
        x.days(-1, 1);
        c.due("home", x.ship(0, 0), 0);
        c.due("on", x.ship(0, 4), -1);
        c.due("earned", x.voyage(0, 4), 2);
        c.due("rot", x.plank(0, 1), 6);
        c.due("earned in all", x.count(7), 101);
        c.due("her own part and what is left", x.ship(0, 3), 51);
        c.due("the owner's part", x.ship(1, 3), 50);
    }

    private static void parts(Checks c) {
        NineTimbers x = Checks.withYard("kinds 1;ship 4;ship 0;ship 0;plank 0 9 0;plank 0 9 1;plank 0 9 1;plank 0 2 2;"
            + "plank 0 9 2;voyage 0 0 2 23");
        for (int plank = 0; plank < 5; plank++) {
            x.move(plank, 0);
        }
        c.due("days", x.days(-1, 3), 3);
        c.due("a rotten plank has no part: 23 in 5", x.ship(0, 3), 4 + 4 + 3);
        c.due("two parts", x.ship(1, 3), 8);
        c.due("one part", x.ship(2, 3), 4);
        NineTimbers y = Checks.withYard("kinds 1;ship 0;voyage 0 0 1 7;voyage 0 1 2 8");
        y.days(-1, 2);
        c.due("a ship without planks", y.ship(0, 3), 7);
        y.days(-1, 1);
        c.due("and again", y.ship(0, 3), 15);
        c.due("all", y.count(7), 15);
    }

    private static void lastPlankRots(Checks c) {
        NineTimbers x = Checks.withYard("kinds 1;ship 1;plank 0 3 0;voyage 0 0 3 10;voyage 0 4 5 1");
        x.move(0, 0);
        x.days(-1, 3);
        c.due("no rot left at sea", x.plank(0, 1), 0);
        c.due("not lost", x.ship(0, 0), 1);
        c.due("not whole", x.ship(0, 2), 0);
        x.days(-1, 1);
        c.due("home", x.ship(0, 0), 0);
        c.due("all hers", x.ship(0, 3), 10);
        x.days(-1, 1);
        c.due("can't sail", x.voyage(1, 4), 0);
        c.due("lacks", x.lacks(0, 0), 1);
    }

    private static void lostAtSea(Checks c) {
        NineTimbers x = Checks.withYard("kinds 1;ship 2;ship 1;plank 0 2 0;plank 0 9 1;plank 0 9 1;voyage 0 0 4 10;"
            + "voyage 0 5 6 1;voyage 1 2 3 5");
        x.move(0, 0);
        x.move(1, 0);
        x.days(-1, 1);
        c.due("at sea", x.ship(0, 0), 1);
        x.days(-1, 1);
        c.due("lost", x.ship(0, 0), 2);
        c.due("on", x.ship(0, 4), -1);
        c.due("voyage", x.voyage(0, 4), 3);
        c.due("lost plank", x.plank(1, 4), 1);
        c.due("rotten lost plank", x.plank(0, 4), 1);
        c.due("heap plank", x.plank(2, 4), 0);
        c.due("in", x.plank(1, 3), 0);
        c.due("rot", x.plank(1, 1), 7);
        c.due("move a lost one", x.move(1, 1), false);
        c.due("move to a lost ship", x.move(2, 0), false);
        Checks.rule(x, "take rot");
        x.days(0, 8);
        c.due("the other took from the heap", x.plank(2, 3), 1);
        c.due("rot of lost planks stays", x.plank(1, 1), 7);
        c.due("no second voyage", x.voyage(1, 4), 0);
        c.due("earned", x.count(7), 5);
    }

    private static void byARule(Checks c) {
        NineTimbers x = Checks.withYard(Checks.FLEET);
        Checks.rule(x, "take rot if rot >= length");
        c.due("a day", x.days(0, 1), 1);
        c.due("sailed", x.ship(0, 0), 1);
        c.due("plank 0", x.plank(0, 3), 0);
        c.due("plank 1", x.plank(1, 3), 0);
        c.due("plank 2", x.plank(2, 3), 0);
        c.due("plank 3", x.plank(3, 3), -1);
        c.due("rot", x.plank(0, 1), 4);
        c.due("moves", x.count(9), 3);
        c.due("hands", x.count(6), 9);
        c.due("days", x.days(0, 3), 4);
        c.due("voyage 1 lacked planks", x.voyage(1, 4), 0);
        c.due("voyage 0", x.voyage(0, 4), 2);
        c.due("moves", x.count(9), 3);
        c.due("ship 0: plank 0 and her own part of 100 in 3", x.ship(0, 3), 67);
        c.due("ship 1", x.ship(1, 3), 33);
        c.due("days", x.days(0, 2), 6);
        c.due("voyage 2", x.voyage(2, 4), 1);
        c.due("taken from ship 0", x.plank(0, 3), 1);
        c.due("taken from the heap", x.plank(3, 3), 1);
    }

    private static void fromOtherShips(Checks c) {
        NineTimbers x = Checks.withYard("kinds 1;ship 1;ship 1;ship 1;plank 0 9 0;plank 0 8 0;plank 0 7 0;"
            + "voyage 0 1 2 5;voyage 1 1 2 6");
        Checks.rule(x, "take rot");
        x.move(1, 1);
        x.move(0, 2);
        x.days(0, 1);
        x.move(2, 2);
        x.days(0, 1);
        c.due("not from a ship that sails on this day", x.plank(1, 3), 1);
        c.due("from one that does not", x.plank(2, 3), 0);
        c.due("least rot, not this", x.plank(0, 3), 2);
        c.due("both at sea", x.ship(0, 0) + x.ship(1, 0), 2);
        c.due("moves", x.count(9), 4);
    }

    private static void handsOfARule(Checks c) {
        NineTimbers x = Checks.withYard("kinds 2;ship 1 1;ship 0 0;plank 0 9 0;plank 1 9 0;plank 1 9 0;voyage 0 0 2 5;"
            + "voyage 0 1 3 7;hands 2");
        Checks.rule(x, "take plank");
        x.move(2, 1);
        x.days(0, 1);
        c.due("one hand was left", x.plank(0, 3), 0);
        c.due("none for this", x.plank(1, 3), -1);
        c.due("not begun", x.voyage(0, 4), 0);
        x.days(0, 1);
        c.due("next day", x.plank(1, 3), 0);
        c.due("begun", x.voyage(1, 4), 1);
        c.due("moves", x.count(9), 3);
    }

    private static void notWhole(Checks c) {
        NineTimbers x = Checks.withYard("kinds 2;ship 2 1;plank 0 9 0;plank 1 9 0;plank 0 9 0;voyage 0 0 2 5;voyage 0 3 4 6");
        Checks.rule(x, "take plank if plank<2");
        Checks.rule(x, "take plank");
        x.days(0, 1);
        c.due("planks moved all the same", x.ship(0, 1), 2);
        c.due("ashore", x.ship(0, 0), 0);
        x.days(1, 2);
        c.due("nobody sails on other days", x.count(9), 2);
        x.days(1, 1);
        c.due("sails", x.ship(0, 4), 1);
    }

    private static void twoVoyagesOnADay(Checks c) {
        NineTimbers x = Checks.withYard("kinds 1;ship 1;plank 0 9 0;voyage 0 0 2 5;voyage 0 0 3 6;voyage 0 1 3 6");
        Checks.rule(x, "take plank if length=3");
        NineTimbers y = Checks.withYard("kinds 1;ship 1;plank 0 9 0;voyage 0 0 2 5;voyage 0 0 3 6;voyage 0 1 3 6");
        y.move(0, 0);
        x.days(0, 1);
        y.days(-1, 1);
        c.due("the first had no plank", x.ship(0, 4), 1);
        c.due("the first", y.ship(0, 4), 0);
        y.days(-1, 1);
        c.due("at sea she begins no other", y.voyage(2, 4), 0);
    }

    private static void homeAndOutOnADay(Checks c) {
        NineTimbers x = Checks.withYard("kinds 1;ship 1;ship 1;plank 0 9 0;voyage 0 0 2 5;voyage 1 2 4 6;voyage 0 4 5 1");
        Checks.rule(x, "take rot");
        x.days(0, 3);
        c.due("home", x.voyage(0, 4), 2);
        c.due("the same plank out again", x.voyage(1, 4), 1);
        c.due("in", x.plank(0, 3), 1);
        x.days(0, 2);
        c.due("back to the first", x.plank(0, 3), 0);
        c.due("rot", x.plank(0, 1), 4);
        c.due("owed: her own, 3 of the other's", x.ship(0, 3), 5 + 3);
        c.due("the other", x.ship(1, 3), 3);
    }

    private static void lacking(Checks c) {
        NineTimbers x = Checks.withYard(Checks.FLEET);
        c.due("lacks", x.lacks(0, 0), 1);
        c.due("lacks", x.lacks(0, 1), 2);
        x.move(1, 0);
        c.due("lacks", x.lacks(0, 1), 1);
        x.move(2, 0);
        x.move(3, 0);
        c.due("has more", x.lacks(0, 1), 0);
        c.due("no ship", x.lacks(2, 0), -1);
        c.due("no ship", x.lacks(-1, 0), -1);
        c.due("no kind", x.lacks(0, 2), -1);
        c.due("no kind", x.lacks(0, -1), -1);
    }
}
