/** Promise 3, end: the TAPE has its first n bytes alone. */
public final class Promise03EndTest {
    public static void main(String[] args) {
        Checks.run(Promise03EndTest.class);
    }

    private static void answersNAndKeepsTheFirstNBytes(Checks c) {
        NineTimbers x = new NineTimbers();
        x.feed(0x6b696e64, 0x73203121, 0, 0, 0);
        c.due("all", x.end(20), 20);
        c.due("one less", x.end(19), 19);
        c.due("the text", x.end(7), 7);
        c.due("bytes", x.count(11), 7);
        c.due("what was cut off is not read", x.yard(), 0);
        c.due("kinds", x.count(0), 1);
    }

    private static void emptyTape(Checks c) {
        NineTimbers x = new NineTimbers();
        c.due("end(0)", x.end(0), 0);
        c.due("end(1)", x.end(1), -1);
        c.due("bytes", x.count(11), 0);
    }

    private static void fullTape(Checks c) {
        NineTimbers x = new NineTimbers();
        Checks.put(x, Checks.times(" ", 400));
        c.due("end(401)", x.end(401), -1);
        c.due("bytes", x.count(11), 400);
        c.due("end(400)", x.end(400), 400);
        c.due("end(399)", x.end(399), 399);
        c.due("end(400)", x.end(400), -1);
        c.due("end(0)", x.end(0), 0);
        c.due("bytes", x.count(11), 0);
    }

    private static void notSoManyBytes(Checks c) {
        NineTimbers x = new NineTimbers();
        x.feed(0x6b696e64, 0x73203220, 0x20202020, 0x20202020, 0x20202020);
        c.due("end(21)", x.end(21), -1);
        c.due("end(most)", x.end(Integer.MAX_VALUE), -1);
        c.due("bytes", x.count(11), 20);
        c.due("text", x.yard(), 0);
        c.due("kinds", x.count(0), 2);
    }

    private static void belowZero(Checks c) {
        NineTimbers x = new NineTimbers();
        x.feed(0x6b696e64, 0x73203220, 0x20202020, 0x20202020, 0x20202020);
        c.due("end(-1)", x.end(-1), -1);
        c.due("end(least)", x.end(Integer.MIN_VALUE), -1);
        c.due("bytes", x.count(11), 20);
        c.due("text", x.yard(), 0);
        c.due("kinds", x.count(0), 2);
    }

    private static void aRefusedEndChangesNothing(Checks c) {
        NineTimbers x = Checks.withYard(Checks.FLEET);
        x.feed(1, 2, 3, 4, 5);
        int[] before = Seen.of(x);
        c.due("end(21)", x.end(21), -1);
        c.due("end(-1)", x.end(-1), -1);
        c.unchanged("refused", x, before);
    }

    private static void bytesCutOffStayGone(Checks c) {
        NineTimbers x = new NineTimbers();
        x.feed(1, 2, 3, 4, 5);
        x.end(3);
        c.due("end(4)", x.end(4), -1);
        c.due("end(3)", x.end(3), 3);
        Checks.put(zeroed(x), "kinds 12345678901234");
        x.end(7);
        c.due("digits behind the end", x.yard(), 0);
        Checks.put(x, "take 1 if 1<=1111111");
        x.end(12);
        c.due("the = behind the end", x.rule(), Checks.fault(12, 0));
        Checks.put(x, "take rotrot");
        x.end(8);
        c.due("letters behind the end", x.rule(), 0);
    }

    private static NineTimbers zeroed(NineTimbers x) {
        x.end(0);
        return x;
    }
}
