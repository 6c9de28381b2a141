/** Promise 24, image: an IMAGE is made. */
public final class Promise24ImageTest {
    public static void main(String[] args) {
        Checks.run(Promise24ImageTest.class);
    }

    private static void answersTheDay(Checks c) {
        NineTimbers x = Checks.withYard(Checks.FLEET);
        c.due("day 0", x.image(0), 0);
        x.days(-1, 7);
        c.due("day 7", x.image(1), 7);
        x.days(-1, 100);
        x.days(-1, 93);
        c.due("day 200", x.image(2), 200);
        c.due("again", x.image(2), 200);
    }

    private static void imagesAre0To3(Checks c) {
        NineTimbers x = Checks.withYard(Checks.FLEET);
        for (int k = 0; k < 4; k++) {
            c.due("image " + k, x.image(k), 0);
        }
        c.due("image -1", x.image(-1), -1);
        c.due("image 4", x.image(4), -1);
        for (int far : Checks.FAR) {
            c.due("image " + far, x.image(far), -1);
        }
    }

    private static void makingOneChangesNothing(Checks c) {
        NineTimbers x = Checks.withRules(Checks.FLEET, "take 0-rot");
        x.seed(4);
        x.days(0, 2);
        Checks.move(x, 3, -1);
        x.feed(1, 2, 3, 4, 5);
        int[] before = Seen.of(x);
        for (int k = -1; k <= 4; k++) {
            x.image(k);
            c.unchanged("image " + k, x, before);
        }
    }

    private static void oneThatIsNotMadeLeavesTheOthers(Checks c) {
        NineTimbers x = Checks.withYard(Checks.FLEET);
        x.days(-1, 3);
        x.image(0);
        x.days(-1, 1);
        x.image(-1);
        x.image(4);
        c.due("image 0", x.back(0), 3);
        c.due("never made", x.back(1), -1);
        c.due("never made", x.back(3), -1);
    }

    private static void oneInPlaceOfAnother(Checks c) {
        NineTimbers x = Checks.withYard(Checks.FLEET);
        x.image(2);
        x.days(-1, 5);
        x.image(2);
        x.days(-1, 5);
        c.due("the later", x.back(2), 5);
    }

    private static void withoutAYard(Checks c) {
        NineTimbers x = new NineTimbers();
        c.due("day 0", x.image(0), 0);
        c.due("not the number", x.image(4), -1);
    }

    private static void eachIsItsOwn(Checks c) {
        NineTimbers x = Checks.withYard(Checks.FLEET);
        for (int k = 0; k < 4; k++) {
            x.image(k);
            x.days(-1, 1);
        }
        for (int k = 3; k >= 0; k--) {
            c.due("image " + k, x.back(k), k);
        }
        for (int k = 0; k < 4; k++) {
            c.due("image " + k + " again", x.back(k), k);
        }
    }
}
