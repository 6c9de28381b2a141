/** Promises 16 to 18: which hull is which, and what a wreck takes from whom. */
public final class HullTest {
    public static void main(String[] args) {
        Checks c = new Checks();
        laws(c);
        empty(c);
        wrecks(c);
        rottenAndLost(c);
        c.close();
    }

    private static NineTimbers fleet() {
        return Checks.withYard("kinds 2;ship 1 1;ship 1 1;ship 1 1;plank 1 9 2;plank 0 9 1;plank 0 9 0;plank 1 9 0;"
            + "plank 1 9 0;plank 0 1 2;voyage 0 1 3 5;voyage 1 1 2 6");
    }

    private static void laws(Checks c) {
        NineTimbers x = fleet();
        x.move(0, 0);
        c.due("no plank of kind 0", x.same(0, 0), -1);
        c.due("most", x.same(1, 0), 2);
        x.move(2, 0);
        c.due("least plank of kind 0", x.same(0, 0), 0);
        c.due("of several the least", x.same(1, 0), 0);
        c.due("herself", x.same(2, 0), 0);
        c.due("unlike", x.unlike(), 6);
        x.move(1, 0);
        c.due("a lesser plank", x.same(0, 0), 1);
        c.due("unlike", x.unlike(), 7);
        x.move(3, 0);
        c.due("most", x.same(1, 0), 0);
        c.due("law 3", x.same(3, 0), -2);
        c.due("law -1", x.same(-1, 0), -2);
        c.due("no ship", x.same(0, 3), -2);
        c.due("no ship", x.same(2, -1), -2);
    }

    private static void empty(Checks c) {
        NineTimbers x = fleet();
        c.due("law 0", x.same(0, 1), -1);
        c.due("law 1", x.same(1, 1), -1);
        c.due("law 2", x.same(2, 1), 1);
        c.due("unlike", x.unlike(), 7);
        c.due("who", x.wreck(1, -1), -1);
        c.due("how many", x.wreck(1, 0), 0);
    }

    private static void wrecks(Checks c) {
        NineTimbers x = fleet();
        x.move(0, 1);
        x.move(1, 1);
        c.due("of several the least", x.wreck(1, -1), 1);
        x.move(3, 1);
        x.move(4, 1);
        c.due("0", x.wreck(1, 0), 2);
        c.due("1", x.wreck(1, 1), 1);
        c.due("2", x.wreck(1, 2), 1);
        c.due("who", x.wreck(1, -1), 0);
        c.due("no owner", x.wreck(1, 3), -2);
        c.due("no owner", x.wreck(1, -2), -2);
        c.due("no ship", x.wreck(3, 0), -2);
        c.due("no ship", x.wreck(-1, 0), -2);
    }

    private static void rottenAndLost(Checks c) {
        NineTimbers x = fleet();
        x.move(5, 1);
        x.move(0, 1);
        x.days(-1, 3);
        c.due("home with a rotten plank", x.voyage(1, 4), 2);
        c.due("law 0", x.same(0, 1), -1);
        c.due("law 1", x.same(1, 1), 2);
        c.due("wreck", x.wreck(1, 2), 1);
        NineTimbers y = fleet();
        y.move(5, 0);
        y.move(3, 0);
        y.days(-1, 2);
        c.due("lost", y.ship(0, 0), 2);
        c.due("law 0", y.same(0, 0), -1);
        c.due("law 1", y.same(1, 0), -1);
        c.due("law 2", y.same(2, 0), 0);
        c.due("unlike", y.unlike(), 7);
    }
}
