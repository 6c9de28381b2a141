/** Promises 24 and 25: images, and 23 across them. */
public final class ImageTest {
    public static void main(String[] args) {
        Checks c = new Checks();
        wrong(c);
        goBack(c);
        anotherYard(c);
        noYard(c);
        rulesAndTapeStay(c);
        c.close();
    }

    private static void wrong(Checks c) {
        NineTimbers x = Checks.withYard(Checks.FLEET);
        c.due("image 4", x.image(4), -1);
        c.due("image -1", x.image(-1), -1);
        c.due("never made", x.back(3), -1);
        c.due("back 4", x.back(4), -1);
        c.due("back -1", x.back(-1), -1);
        c.due("image 3", x.image(3), 0);
        c.due("back 3", x.back(3), 0);
        c.due("back 2", x.back(2), -1);
    }

    private static void goBack(Checks c) {
        NineTimbers x = Checks.withYard(Checks.FLEET);
        Checks.rule(x, "take 0-rot");
        x.seed(4);
        x.days(0, 2);
        c.due("move", x.move(3, -1), true);
        c.due("image", x.image(0), 2);
        int[] before = all(x);
        x.seed(9);
        c.due("days", x.days(0, 50), 52);
        c.due("image", x.image(1), 52);
        int[] later = all(x);
        c.due("back", x.back(0), 2);
        same(c, x, before);
        c.due("hands", x.count(6), 8);
        c.due("x", x.count(10), 4);
        x.days(0, 7);
        c.due("back again", x.back(0), 2);
        same(c, x, before);
        c.due("back to the later", x.back(1), 52);
        same(c, x, later);
        c.due("image in place of another", x.image(0), 52);
        x.days(0, 1);
        c.due("back", x.back(0), 52);
    }

    private static int[] all(NineTimbers x) {
        int[] all = new int[200];
        int n = 0;
        for (int what = 0; what < 11; what++) {
            all[n++] = x.count(what);
        }
        for (int i = 0; i < 6; i++) {
            for (int what = 0; what < 9; what++) {
                all[n++] = x.ship(i, what);
            }
        }
        for (int i = 0; i < 4; i++) {
            for (int what = 0; what < 5; what++) {
                all[n++] = x.plank(i, what);
                all[n++] = x.voyage(i, what);
            }
        }
        return all;
    }

    private static void same(Checks c, NineTimbers x, int[] want) {
        int[] got = all(x);
        for (int i = 0; i < got.length; i++) {
            c.due("part " + i + " of the state", got[i], want[i]);
        }
    }

    private static void anotherYard(Checks c) {
        NineTimbers x = Checks.withYard(Checks.FLEET);
        x.days(-1, 3);
        x.image(2);
        c.due("another", Checks.yard(x, "kinds 1;ship 3"), 1);
        c.due("ships", x.count(1), 1);
        c.due("the image is still there", x.back(2), 3);
        c.due("ships", x.count(1), 2);
        c.due("must", x.ship(0, 6), 2);
        c.due("rot", x.plank(2, 1), 9);
        c.due("hands", x.count(6), 9);
    }

    private static void noYard(Checks c) {
        NineTimbers x = new NineTimbers();
        x.seed(8);
        c.due("image without a yard", x.image(0), 0);
        Checks.yard(x, Checks.FLEET);
        x.seed(9);
        x.days(-1, 5);
        c.due("back", x.back(0), 0);
        c.due("no yard", x.unlike(), -1);
        c.due("no hands", x.count(6), 0);
        c.due("ships", x.count(1), 0);
        c.due("x", x.count(10), 8);
        c.due("no days", x.days(-1, 1), -1);
    }

    private static void rulesAndTapeStay(Checks c) {
        NineTimbers x = Checks.withYard(Checks.FLEET);
        x.image(0);
        Checks.rule(x, "take rot");
        x.feed(1, 2, 3, 4, 5);
        x.back(0);
        c.due("rules", x.count(4), 1);
        c.due("tape", x.count(11), 20);
    }
}
