import java.util.ArrayList;
import java.util.List;

/** All that can be seen of an object by the calls that tell how it stands. */
final class Seen {
    private Seen() {
    }

    /** The counts, ships, planks and voyages; some 60 calls for a small yard, so that 512 are not reached soon. */
    static int[] of(NineTimbers x) {
        List<Integer> seen = new ArrayList<>();
        for (int what = 0; what <= 11; what++) {
            seen.add(x.count(what));
        }
        int kinds = seen.get(0);
        int ships = seen.get(1);
        int planks = seen.get(2);
        int voyages = seen.get(3);
        for (int ship = 0; ship < ships; ship++) {
            for (int what = 0; what <= 4 + kinds; what++) {
                seen.add(x.ship(ship, what));
            }
        }
        for (int plank = 0; plank < planks; plank++) {
            for (int what = 0; what <= 4; what++) {
                seen.add(x.plank(plank, what));
            }
        }
        for (int voyage = 0; voyage < voyages; voyage++) {
            for (int what = 0; what <= 4; what++) {
                seen.add(x.voyage(voyage, what));
            }
        }
        return seen.stream().mapToInt(Integer::intValue).toArray();
    }
}
