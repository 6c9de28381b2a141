/** Promises 1 to 3: a new object, feed, end; and 23 as far as it tells of them. */
public final class TapeTest {
    public static void main(String[] args) {
        Checks c = new Checks();
        newObject(c);
        feeding(c);
        ending(c);
        byteOrder(c);
        bytesBehindTheEnd(c);
        c.close();
    }

    private static void newObject(Checks c) {
        NineTimbers x = new NineTimbers();
        c.due("NONE", NineTimbers.NONE, -1);
        for (int what = 0; what <= 11; what++) {
            c.due("new count(" + what + ")", x.count(what), 0);
        }
        c.due("count(-1)", x.count(-1), -1);
        c.due("count(12)", x.count(12), -1);
        c.due("ship", x.ship(0, 0), -1);
        c.due("plank", x.plank(0, 0), -2);
        c.due("voyage", x.voyage(0, 0), -1);
        c.due("move", x.move(0, -1), false);
        c.due("days", x.days(-1, 1), -1);
        c.due("lacks", x.lacks(0, 0), -1);
        c.due("together", x.together(0), -1);
        c.due("cut", x.cut(0, 0), -1);
        c.due("most", x.most(0), -1);
        c.due("willDo", x.willDo(0), -1);
        c.due("same", x.same(2, 0), -2);
        c.due("unlike", x.unlike(), -1);
        c.due("wreck", x.wreck(0, -1), -2);
        c.due("dealt", x.dealt(0), -1);
        c.due("ahead", x.ahead(-1, 0, 0), -1);
        c.due("years", x.years(-1, 1, 1, 0, 0), -1);
        c.due("back", x.back(0), -1);
        c.due("yard of nothing", x.yard(), Checks.fault(0, 0));
        c.due("rule of nothing", x.rule(), Checks.fault(0, 0));
    }

    private static void feeding(Checks c) {
        NineTimbers x = new NineTimbers();
        for (int n = 20; n <= 400; n += 20) {
            c.due("feed", x.feed(0, 0, 0, 0, 0), n);
        }
        c.due("feed on a full tape", x.feed(0, 0, 0, 0, 0), -1);
        c.due("bytes", x.count(11), 400);
        c.due("end(381)", x.end(381), 381);
        c.due("feed at 381", x.feed(0, 0, 0, 0, 0), -1);
        c.due("bytes", x.count(11), 381);
        c.due("end(380)", x.end(380), 380);
        c.due("feed at 380", x.feed(0, 0, 0, 0, 0), 400);
    }

    private static void ending(Checks c) {
        NineTimbers x = new NineTimbers();
        c.due("end(0)", x.end(0), 0);
        c.due("end(1)", x.end(1), -1);
        c.due("end(-1)", x.end(-1), -1);
        c.due("end(least)", x.end(Integer.MIN_VALUE), -1);
        c.due("end(most)", x.end(Integer.MAX_VALUE), -1);
        x.feed(1, 2, 3, 4, 5);
        c.due("end(21)", x.end(21), -1);
        c.due("bytes", x.count(11), 20);
        c.due("end(20)", x.end(20), 20);
        c.due("end(7)", x.end(7), 7);
        c.due("bytes", x.count(11), 7);
        c.due("feed", x.feed(1, 2, 3, 4, 5), 27);
        c.due("end(0)", x.end(0), 0);
    }

    private static void byteOrder(Checks c) {
        NineTimbers x = new NineTimbers();
        x.feed(0x6b696e64, 0x73312020, 0x20202020, 0x20202020, 0x20202020);
        c.due("kinds1 and blanks", x.yard(), 0);
        c.due("kinds", x.count(0), 1);
        c.due("bytes behind yard", x.count(11), 0);
        x.feed(0x6b696e64, 0x7331FF20, 0, 0, 0);
        c.due("a byte above 127", x.yard(), Checks.fault(6, 0));
        Checks.put(x, "kinds ");
        x.end(5);
        x.feed(0x34000000, 0, 0, 0, 0);
        x.end(6);
        c.due("a text in two parts", x.yard(), 0);
        c.due("kinds", x.count(0), 4);
    }

    /** What was cut off is not read, though it may still lie in the row. */
    private static void bytesBehindTheEnd(Checks c) {
        NineTimbers x = new NineTimbers();
        Checks.put(x, "kinds 12345678901234");
        x.end(7);
        c.due("kinds 1", x.yard(), 0);
        c.due("kinds", x.count(0), 1);
        Checks.put(x, "take 1 if 1<=1111111");
        x.end(12);
        c.due("nothing behind <", x.rule(), Checks.fault(12, 0));
        Checks.put(x, "take rotrot");
        x.end(8);
        c.due("take rot", x.rule(), 0);
    }
}
