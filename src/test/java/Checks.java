import java.lang.reflect.InvocationTargetException;
import java.lang.reflect.Method;
import java.lang.reflect.Modifier;
import java.nio.charset.StandardCharsets;
import java.util.Arrays;
import java.util.Comparator;

/** What all tests share: answers compared with those that are due, and texts fed to a tape. */
final class Checks {
    /** A yard of the document's kind, used by many tests: 2 ships, 4 planks, 3 voyages. */
    static final String FLEET =
        "kinds 2;ship 1 2;ship 1 1;plank 0 5 0;plank 1 3 0;plank 1 9 1;plank 1 2 1;"
        + "voyage 0 0 3 100;voyage 1 1 4 50;voyage 1 5 7 30;hands 9";

    /** Numbers that no call takes for a ship, a plank, a voyage, a rule, a law or an image. */
    static final int[] FAR = {Integer.MIN_VALUE, Integer.MIN_VALUE + 1, -32, -3, 24, 31, 32, 64, 256, Integer.MAX_VALUE};

    private int passed;
    private int failed;
    private String test = "";

    /** Runs every method of a class that takes Checks alone: each is the test of a sentence, and bears its name. */
    static void run(Class<?> tests) {
        Checks c = new Checks();
        Method[] methods = tests.getDeclaredMethods();
        Arrays.sort(methods, Comparator.comparing(Method::getName));
        for (Method m : methods) {
            if (Modifier.isStatic(m.getModifiers()) && Arrays.equals(m.getParameterTypes(), new Class<?>[] {Checks.class})) {
                c.run(tests, m);
            }
        }
        c.close();
    }

    private void run(Class<?> tests, Method m) {
        test = tests.getSimpleName() + "." + m.getName() + ": ";
        int before = passed + failed;
        try {
            m.setAccessible(true);
            m.invoke(null, this);
        } catch (IllegalAccessException e) {
            throw new IllegalStateException(e);
        } catch (InvocationTargetException e) {
            e.getCause().printStackTrace(System.out);
            due("ended by " + e.getCause(), false, true);
        }
        due("checks something", passed + failed > before, true);
    }

    void due(String call, long got, long want) {
        if (got == want) {
            passed++;
        } else {
            failed++;
            System.out.println(test + call + " answered " + got + ", due is " + want);
        }
    }

    void due(String call, boolean got, boolean want) {
        due(call, got ? 1 : 0, want ? 1 : 0);
    }

    /** All that can be seen of an object must be as it was seen before. */
    void unchanged(String what, NineTimbers x, int[] before) {
        int[] now = Seen.of(x);
        due(what + ": how much can be seen", now.length, before.length);
        for (int i = 0; i < Math.min(now.length, before.length); i++) {
            due(what + ": what is seen at " + i, now[i], before[i]);
        }
    }

    /** Prints the counts and ends the program, with 1 if a check failed. */
    void close() {
        System.out.println(passed + " passed, " + failed + " failed");
        System.exit(failed == 0 && passed > 0 ? 0 : 1);
    }

    /** Puts a text of at most 400 bytes on an empty tape. */
    static void put(NineTimbers x, String text) {
        byte[] bytes = text.getBytes(StandardCharsets.ISO_8859_1);
        for (int i = 0; i < bytes.length; i += 20) {
            x.feed(word(bytes, i), word(bytes, i + 4), word(bytes, i + 8), word(bytes, i + 12), word(bytes, i + 16));
        }
        if (x.end(bytes.length) != bytes.length || x.count(11) != bytes.length) {
            throw new IllegalStateException("the tape was not empty, or the text is too long: " + text);
        }
    }

    static int word(byte[] bytes, int at) {
        int word = 0;
        for (int i = at; i < at + 4; i++) {
            word = word << 8 | (i < bytes.length ? bytes[i] & 255 : 0);
        }
        return word;
    }

    static int yard(NineTimbers x, String text) {
        put(x, text);
        return x.yard();
    }

    static int rule(NineTimbers x, String text) {
        put(x, text);
        return x.rule();
    }

    static NineTimbers withYard(String text) {
        NineTimbers x = new NineTimbers();
        if (yard(x, text) < 0) {
            throw new IllegalStateException("no yard: " + text);
        }
        return x;
    }

    /** An object with a yard and with rules, numbered as they stand here. */
    static NineTimbers withRules(String yard, String... rules) {
        NineTimbers x = withYard(yard);
        for (int i = 0; i < rules.length; i++) {
            if (rule(x, rules[i]) != i) {
                throw new IllegalStateException("no rule: " + rules[i]);
            }
        }
        return x;
    }

    /** All 6 ships (one plank each) and all 24 planks (owners 0 to 5 by turns), and the voyages behind them. */
    static String manyPlanks(int rot, String voyages) {
        StringBuilder text = new StringBuilder("kinds 1" + times(";ship 1", 6));
        for (int plank = 0; plank < 24; plank++) {
            text.append(";plank 0 ").append(rot).append(' ').append(plank % 6);
        }
        return text + voyages;
    }

    /** All 4 kinds, 6 ships (one plank of kind 3 each), a plank for each, all 8 voyages: a ship each, then 0 and 5 again. */
    static String manyVoyages() {
        StringBuilder text = new StringBuilder("kinds 4" + times(";ship 0 0 0 1", 6));
        for (int ship = 0; ship < 6; ship++) {
            text.append(";plank 3 9 ").append(ship).append(";voyage ").append(ship).append(" 0 2 ").append(1 + ship);
        }
        return text + ";voyage 0 3 4 7;voyage 5 3 4 8";
    }

    /** Moves planks, told as plank, ship, plank, ship ..; each must be moved. */
    static void move(NineTimbers x, int... planksAndShips) {
        for (int i = 0; i < planksAndShips.length; i += 2) {
            if (!x.move(planksAndShips[i], planksAndShips[i + 1])) {
                throw new IllegalStateException("plank " + planksAndShips[i] + " may not move");
            }
        }
    }

    /** What yard and rule answer for a fault. */
    static int fault(int place, int why) {
        return -2 - (1 + 8 * place + why);
    }

    /** A yard with a fault at the sign @ (which is not a part of the text). */
    void yardFault(String marked, int why) {
        String text = marked.replace("@", "");
        due("yard of '" + text + "'", yard(new NineTimbers(), text), fault(marked.indexOf('@'), why));
    }

    /** A rule with a fault at the sign @ (which is not a part of the text). */
    void ruleFault(String marked, int why) {
        String text = marked.replace("@", "");
        due("rule of '" + text + "'", rule(new NineTimbers(), text), fault(marked.indexOf('@'), why));
    }

    void yardTaken(String text, int ships) {
        due("yard of '" + text + "'", yard(new NineTimbers(), text), ships);
    }

    void ruleTaken(String text) {
        due("rule of '" + text + "'", rule(new NineTimbers(), text), 0);
    }

    static String times(String part, int n) {
        return part.repeat(n);
    }
}
