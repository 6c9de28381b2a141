import java.nio.charset.StandardCharsets;

/** What all tests share: answers compared with those that are due, and texts fed to a tape. */
final class Checks {
    private int passed;
    private int failed;

    /** A yard of the document's kind, used by many tests. */
    static final String FLEET =
        "kinds 2;ship 1 2;ship 1 1;plank 0 5 0;plank 1 3 0;plank 1 9 1;plank 1 2 1;"
        + "voyage 0 0 3 100;voyage 1 1 4 50;voyage 1 5 7 30;hands 9";

    void due(String call, long got, long want) {
        if (got == want) {
            passed++;
        } else {
            failed++;
            System.out.println(call + " answered " + got + ", due is " + want);
        }
    }

    void due(String call, boolean got, boolean want) {
        due(call, got ? 1 : 0, want ? 1 : 0);
    }

    /** Prints the counts and ends the program, with 1 if a check failed. */
    void close() {
        System.out.println(passed + " passed, " + failed + " failed");
        System.exit(failed == 0 && passed > 0 ? 0 : 1);
    }

    /** Puts a text of at most 400 bytes on an empty tape. */
    static void put(NineTimbers x, String text) {
        byte[] bytes = text.getBytes(StandardCharsets.ISO_8859_1);
        for (int i = 0; i < bytes.length; i += 20) {
            x.feed(word(bytes, i), word(bytes, i + 4), word(bytes, i + 8), word(bytes, i + 12), word(bytes, i + 16));
        }
        if (x.end(bytes.length) != bytes.length) {
            throw new IllegalStateException("the tape was not empty, or the text is too long: " + text);
        }
    }

    static int word(byte[] bytes, int at) {
        int word = 0;
        for (int i = at; i < at + 4; i++) {
            word = word << 8 | (i < bytes.length ? bytes[i] & 255 : 0);
        }
        return word;
    }

    static int yard(NineTimbers x, String text) {
        put(x, text);
        return x.yard();
    }

    static int rule(NineTimbers x, String text) {
        put(x, text);
        return x.rule();
    }

    static NineTimbers withYard(String text) {
        NineTimbers x = new NineTimbers();
        if (yard(x, text) < 0) {
            throw new IllegalStateException("no yard: " + text);
        }
        return x;
    }

    /** What yard and rule answer for a fault. */
    static int fault(int place, int why) {
        return -2 - (1 + 8 * place + why);
    }

    void yardFault(String text, int place, int why) {
        due("yard of '" + text + "'", yard(new NineTimbers(), text), fault(place, why));
    }

    void ruleFault(String text, int place, int why) {
        due("rule of '" + text + "'", rule(new NineTimbers(), text), fault(place, why));
    }

    static String times(String part, int n) {
        return part.repeat(n);
    }
}
