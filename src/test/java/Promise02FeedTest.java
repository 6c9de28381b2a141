/** Promise 2, feed: twenty bytes behind the TAPE, 400 at most. */
public final class Promise02FeedTest {
    private static final int BLANKS = 0x20202020;

    public static void main(String[] args) {
        Checks.run(Promise02FeedTest.class);
    }

    private static void answersHowManyBytesItHas(Checks c) {
        NineTimbers x = new NineTimbers();
        for (int n = 20; n <= 400; n += 20) {
            c.due("feed", x.feed(n, -n, 0, Integer.MIN_VALUE, Integer.MAX_VALUE), n);
            c.due("bytes", x.count(11), n);
        }
    }

    private static void noneComesOnAFullTape(Checks c) {
        NineTimbers x = new NineTimbers();
        Checks.put(x, "kinds 3" + Checks.times(" ", 393));
        c.due("one feed too many", x.feed(-1, -1, -1, -1, -1), -1);
        c.due("and again", x.feed(-1, -1, -1, -1, -1), -1);
        c.due("bytes", x.count(11), 400);
        c.due("the text is as it was", x.yard(), 0);
        c.due("kinds", x.count(0), 3);
    }

    private static void noneComesIfItWouldHave401(Checks c) {
        for (int length = 381; length < 400; length++) {
            NineTimbers x = new NineTimbers();
            Checks.put(x, "kinds 2" + Checks.times(" ", length - 7));
            c.due("feed at " + length, x.feed(-1, -1, -1, -1, -1), -1);
            c.due("bytes", x.count(11), length);
            c.due("end one further", x.end(length + 1), -1);
            c.due("no byte came", x.yard(), 0);
        }
    }

    private static void twentyComeIfItWouldHave400(Checks c) {
        NineTimbers x = new NineTimbers();
        Checks.put(x, "kinds 2" + Checks.times(" ", 373));
        c.due("feed at 380", x.feed(BLANKS, BLANKS, BLANKS, BLANKS, BLANKS + '!' - ' '), 400);
        c.due("the last byte is a fault", x.yard(), Checks.fault(399, 0));
    }

    private static void ofEachNumberTheHighestByteFirst(Checks c) {
        NineTimbers x = new NineTimbers();
        c.due("kinds1 ;ship 0 ;ship", x.feed(0x6b696e64, 0x7331203b, 0x73686970, 0x2030203b, 0x73686970), 20);
        c.due(" 5 and blanks", x.feed(0x20352020, BLANKS, BLANKS, BLANKS, BLANKS), 40);
        c.due("yard", x.yard(), 2);
        c.due("first ship", x.ship(0, 5), 0);
        c.due("second ship", x.ship(1, 5), 5);
    }

    private static void eachOfTheTwentyBytesHasItsPlace(Checks c) {
        for (int at = 0; at < 20; at++) {
            NineTimbers x = new NineTimbers();
            int[] numbers = {BLANKS, BLANKS, BLANKS, BLANKS, BLANKS};
            numbers[at / 4] ^= ('!' ^ ' ') << 24 - 8 * (at % 4);
            c.due("feed", x.feed(numbers[0], numbers[1], numbers[2], numbers[3], numbers[4]), 20);
            c.due("a bad byte at " + at, x.yard(), Checks.fault(at, 0));
        }
    }

    private static void theyComeBehindWhatTheTapeHas(Checks c) {
        NineTimbers x = new NineTimbers();
        Checks.put(x, "kinds 9");
        x.end(6);
        c.due("feed", x.feed(0x34202020, BLANKS, BLANKS, BLANKS, BLANKS), 26);
        c.due("yard", x.yard(), 0);
        c.due("kinds", x.count(0), 4);
    }

    private static void aTapeThatWasReadIsFedFromItsBeginning(Checks c) {
        NineTimbers x = new NineTimbers();
        Checks.yard(x, "kinds 1");
        c.due("behind a yard", x.feed(0, 0, 0, 0, 0), 20);
        x.end(0);
        Checks.rule(x, "take 1");
        c.due("behind a rule", x.feed(0, 0, 0, 0, 0), 20);
        x.yard();
        c.due("behind a fault", x.feed(0, 0, 0, 0, 0), 20);
    }

    private static void aRefusedFeedChangesNothing(Checks c) {
        NineTimbers x = Checks.withYard(Checks.FLEET);
        Checks.put(x, Checks.times(" ", 390));
        int[] before = Seen.of(x);
        c.due("feed", x.feed(1, 2, 3, 4, 5), -1);
        c.unchanged("refused", x, before);
    }
}
