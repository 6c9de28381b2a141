/** Promises 12 to 15 and 19: what can be, with which planks. */
public final class PlanTest {
    public static void main(String[] args) {
        Checks c = new Checks();
        sets(c);
        aShipOnTwo(c);
        leastKind(c);
        afterALoss(c);
        best(c);
        bestOfSeveral(c);
        enduring(c);
        notEnduring(c);
        deals(c);
        dealsFromNowOn(c);
        c.close();
    }

    private static void sets(Checks c) {
        NineTimbers x = Checks.withYard("kinds 1;ship 2;ship 2;ship 1;plank 0 5 0;plank 0 5 0;plank 0 5 0;"
            + "voyage 0 0 5 10;voyage 1 5 9 20;voyage 1 4 6 30;voyage 2 0 99 40");
        c.due("none", x.together(0), 1);
        c.due("one", x.together(1), 1);
        c.due("one ends where one begins", x.together(3), 1);
        c.due("cut", x.cut(3, 0), -2);
        c.due("cut", x.cut(3, 1), -2);
        c.due("too few", x.together(5), 0);
        c.due("day", x.cut(5, 0), 4);
        c.due("kind", x.cut(5, 1), 0);
        c.due("3 of 3", x.together(11), 1);
        c.due("on two and too few on day 5: the kind", x.cut(6, 0), 5);
        c.due("kind", x.cut(6, 1), 0);
        c.due("first day", x.cut(15, 0), 4);
        c.due("no set", x.together(16), -1);
        c.due("no set", x.together(-1), -1);
        c.due("no set", x.together(Integer.MIN_VALUE), -1);
        c.due("no set", x.cut(16, 0), -1);
        c.due("no set", x.cut(-1, 0), -1);
        c.due("no what", x.cut(5, 2), -1);
        c.due("no what", x.cut(5, -1), -1);
    }

    private static void aShipOnTwo(Checks c) {
        NineTimbers x = Checks.withYard("kinds 1;ship 1;plank 0 5 0;plank 0 5 0;voyage 0 3 8 10;voyage 0 6 9 20;voyage 0 8 9 1");
        c.due("on two", x.together(3), 0);
        c.due("day", x.cut(3, 0), 6);
        c.due("kind", x.cut(3, 1), 4);
        c.due("one behind the other", x.together(5), 1);
        c.due("all", x.cut(7, 0), 6);
        c.due("the last two", x.cut(6, 0), 8);
    }

    private static void leastKind(Checks c) {
        NineTimbers x = Checks.withYard("kinds 3;ship 0 2 2;plank 0 5 0;plank 1 5 0;plank 2 5 0;plank 2 5 0;voyage 0 9 10 7;"
            + "voyage 0 7 11 7");
        c.due("kind", x.cut(1, 1), 1);
        c.due("day", x.cut(1, 0), 9);
        c.due("day", x.cut(3, 0), 7);
        c.due("can't be", x.most(0), 0);
        c.due("no set", x.most(1), 0);
    }

    private static void afterALoss(Checks c) {
        NineTimbers x = Checks.withYard("kinds 1;ship 1;ship 1;plank 0 1 0;plank 0 1 0;voyage 0 0 3 7;voyage 1 0 1 5;voyage 1 5 6 5");
        x.move(0, 0);
        x.move(1, 1);
        c.due("both", x.together(3), 1);
        c.due("most", x.most(1), 7);
        x.days(-1, 2);
        c.due("lost", x.ship(0, 0), 2);
        c.due("rotten", x.plank(1, 1), 0);
        c.due("a lost plank does not count", x.together(3), 0);
        c.due("a rotten one does", x.together(6), 1);
        c.due("most", x.most(0), 12);
        c.due("set", x.most(1), 5);
    }

    private static void best(Checks c) {
        NineTimbers x = Checks.withYard(Checks.FLEET);
        c.due("voyages 0 and 1 lack planks", x.together(3), 0);
        c.due("most", x.most(0), 130);
        c.due("set", x.most(1), 5);
        c.due("what", x.most(2), -1);
        c.due("what", x.most(-1), -1);
    }

    private static void bestOfSeveral(Checks c) {
        NineTimbers x = Checks.withYard("kinds 1;ship 1;ship 1;plank 0 5 0;voyage 0 0 4 10;voyage 0 0 2 5;voyage 1 2 4 5;"
            + "voyage 1 0 4 10;voyage 0 9 10 0");
        c.due("most", x.most(0), 10);
        c.due("fewest, then least", x.most(1), 1);
        NineTimbers y = Checks.withYard("kinds 1;ship 1;plank 0 5 0;voyage 0 0 2 5;voyage 0 2 4 5;voyage 0 0 4 10");
        c.due("fewest, though not least", y.most(1), 4);
        NineTimbers z = Checks.withYard("kinds 1;ship 1;plank 0 5 0;voyage 0 0 2 0");
        c.due("no pay, no voyage", z.most(1), 0);
    }

    private static void enduring(Checks c) {
        NineTimbers x = Checks.withYard("kinds 2;ship 2 1;ship 0 0;plank 0 9 0;plank 0 3 1;plank 0 4 0;plank 0 5 1;plank 0 4 0;"
            + "plank 1 99 0;plank 1 98 1;voyage 0 10 14 1;voyage 0 10 15 1;voyage 1 0 1 1;voyage 0 0 6 1");
        c.due("least rot that lasts", x.willDo(0), 1 << 2 | 1 << 4 | 1 << 6);
        c.due("five days", x.willDo(1), 1 | 1 << 3 | 1 << 6);
        c.due("none needed", x.willDo(2), 0);
        c.due("too few", x.willDo(3), -2);
        c.due("no voyage", x.willDo(4), -1);
        c.due("no voyage", x.willDo(-1), -1);
        x.move(2, 1);
        c.due("in another ship", x.willDo(0), 1 << 2 | 1 << 4 | 1 << 6);
        x.days(-1, 1);
        c.due("at sea", x.willDo(0), 1 << 3 | 1 << 4 | 1 << 6);
        x.days(-1, 1);
        c.due("rot 3 now", x.willDo(0), 1 << 3 | 1 << 4 | 1 << 6);
    }

    private static void notEnduring(Checks c) {
        NineTimbers x = Checks.withYard("kinds 1;ship 1;ship 1;plank 0 1 0;plank 0 9 0;voyage 0 0 3 1;voyage 1 9 10 1");
        c.due("for it", x.willDo(1), 1);
        x.move(0, 0);
        x.move(1, 0);
        x.days(-1, 1);
        c.due("lost", x.ship(0, 0), 2);
        c.due("lost ones won't do", x.willDo(1), -2);
    }

    private static void deals(Checks c) {
        NineTimbers x = Checks.withYard("kinds 2;ship 2 0;ship 1 1;ship 1 0;ship 0 0;plank 0 9 0;plank 0 9 0;plank 1 9 0;"
            + "voyage 0 0 1 10;voyage 0 50 60 10;voyage 1 3 4 12;voyage 2 3 4 8;voyage 2 3 4 0");
        c.due("pay", x.dealt(0), 20);
        c.due("fewest", x.dealt(1), 1);
        c.due("what", x.dealt(2), -1);
        c.due("what", x.dealt(-1), -1);
        NineTimbers y = Checks.withYard("kinds 1;ship 1;ship 1;ship 0;plank 0 9 0;voyage 0 0 1 10;voyage 1 0 1 10;voyage 2 0 1 1");
        c.due("least as bits", y.dealt(1), 5);
        c.due("pay", y.dealt(0), 11);
    }

    private static void dealsFromNowOn(Checks c) {
        NineTimbers x = Checks.withYard("kinds 1;ship 1;ship 1;plank 0 9 0;plank 0 1 0;voyage 0 0 4 10;voyage 0 5 6 3;"
            + "voyage 1 0 2 20;voyage 1 6 7 4;voyage 1 1 2 9");
        x.move(0, 0);
        x.move(1, 1);
        c.due("all", x.dealt(0), 46);
        x.days(-1, 1);
        c.due("at sea", x.ship(0, 0), 1);
        c.due("lost", x.ship(1, 0), 2);
        c.due("those at sea count; a lost ship does not", x.dealt(1), 1);
        c.due("the voyage begun is past", x.dealt(0), 3);
        x.days(-1, 4);
        c.due("day 5", x.dealt(0), 3);
        x.days(-1, 1);
        c.due("day 6", x.dealt(0), 0);
        c.due("nobody", x.dealt(1), 0);
    }
}
