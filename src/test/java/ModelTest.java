import java.util.Random;

/** Long runs of calls, drawn with fixed seeds, on the class and on Model: all answers must be the same. */
public final class ModelTest {
    private static final int RUNS = 3000;

    private final Random random;
    private final NineTimbers x = new NineTimbers();
    private final Model model = new Model();
    private final Checks c;
    private final int run;

    private ModelTest(Checks c, int run) {
        this.c = c;
        this.run = run;
        random = new Random(run);
    }

    public static void main(String[] args) {
        Checks c = new Checks();
        for (int run = 0; run < RUNS; run++) {
            new ModelTest(c, run).go();
        }
        c.close();
    }

    private void go() {
        for (int i = 0; i < 3; i++) {
            tell(text(random.nextInt(8) == 0, rule()), false);
        }
        for (int i = 0; i < 40; i++) {
            if (i == 0 || random.nextInt(15) == 0) {
                tell(text(random.nextInt(3) == 0, yard()), true);
            }
            if (random.nextInt(15) == 0) {
                tell(text(random.nextInt(2) == 0, rule()), false);
            }
            call();
            state();
        }
    }

    private int below(int n) {
        return random.nextInt(n);
    }

    /** A number from 0 to most, seldom one beside it, very seldom any. */
    private int about(int most) {
        int kind = below(40);
        return kind == 0 ? random.nextInt() : kind < 4 ? below(most + 4) - 2 : below(most + 1);
    }

    private void due(String call, long got, long want) {
        c.due("run " + run + ": " + call, got, want);
    }

    // ---- texts

    private String gap() {
        return below(6) == 0 ? " ".repeat(below(3)) : " ";
    }

    private String thin() {
        return below(8) == 0 ? " " : "";
    }

    private String yard() {
        int kinds = 1 + below(below(3) + 2);
        int ships = 1 + below(below(5) + 2);
        int planks = below(25);
        int voyages = below(9);
        StringBuilder b = new StringBuilder(thin() + "kinds" + gap() + kinds);
        for (int s = 0; s < ships; s++) {
            b.append(thin()).append(';').append(thin()).append("ship");
            for (int k = 0; k < kinds; k++) {
                b.append(' ').append(below(4) == 0 ? below(6) : below(3));
            }
        }
        for (int p = 0; p < planks && b.length() < 340; p++) {
            b.append(";plank").append(gap()).append(below(kinds)).append(' ').append(1 + below(below(2) == 0 ? 8 : 30))
                .append(' ').append(below(ships));
        }
        for (int v = 0; v < voyages && b.length() < 375; v++) {
            int from = below(below(3) == 0 ? 90 : 8);
            b.append(";voyage").append(gap()).append(below(ships)).append(' ').append(from).append(' ')
                .append(from + 1 + below(7)).append(' ').append(below(below(2) == 0 ? 1000 : 30));
        }
        if (below(2) == 0 && b.length() < 390) {
            b.append(";hands").append(gap()).append(1 + below(below(2) == 0 ? 4 : 30));
        }
        return b.append(thin()).toString();
    }

    private String rule() {
        StringBuilder b = new StringBuilder();
        int clauses = 1 + below(below(4) == 0 ? 14 : 3);
        for (int i = 0; i < clauses; i++) {
            b.append(i == 0 ? "" : ";").append(thin()).append("take ").append(sum());
            if (below(3) > 0) {
                b.append(" if ").append(test(0));
            }
        }
        return b.length() > 400 ? b.substring(0, 400) : b.toString();
    }

    private String sum() {
        StringBuilder b = new StringBuilder(value());
        for (int i = below(4); i > 1; i--) {
            b.append(thin()).append("+-*/".charAt(below(4))).append(thin()).append(value());
        }
        return b.toString();
    }

    private String value() {
        if (below(3) == 0) {
            return String.valueOf(below(10) == 0 ? below(120000) : below(12));
        }
        return Model.WORDS.get(below(Model.WORDS.size()));
    }

    private String test(int depth) {
        StringBuilder b = new StringBuilder(fact(depth));
        for (int i = below(4); i > 1; i--) {
            b.append(below(2) == 0 ? " and " : " or ").append(fact(depth));
        }
        return b.toString();
    }

    private String fact(int depth) {
        if (depth < 12 && below(5) == 0) {
            return "not " + fact(depth + 1);
        }
        if (depth < 12 && below(6) == 0) {
            return "[" + test(depth + 1) + "]";
        }
        return sum() + thin() + new String[] {"<", "<=", "=", ">=", ">"}[below(5)] + thin() + sum();
    }

    /** The text, or, if it is to be spoilt, with a byte or two changed, put in or taken out. */
    private String text(boolean spoil, String text) {
        StringBuilder b = new StringBuilder(text);
        for (int i = spoil ? 1 + below(2) : 0; i > 0 && b.length() > 0; i--) {
            int at = below(b.length());
            char sign = ";;  0129akinst[]<=>+-*/x".charAt(below(24));
            if (below(20) == 0) {
                sign = (char) below(256);
            }
            switch (below(5)) {
                case 0 -> b.deleteCharAt(at);
                case 1 -> b.insert(at, sign);
                case 2 -> b.setLength(at);
                case 3 -> b.append(b.substring(at));
                default -> b.setCharAt(at, sign);
            }
        }
        return b.length() > 400 ? b.substring(0, 400) : b.toString();
    }

    private void tell(String text, boolean yard) {
        byte[] bytes = text.getBytes(java.nio.charset.StandardCharsets.ISO_8859_1);
        due("end(0)", x.end(0), model.end(0));
        for (int i = 0; i < bytes.length; i += 20) {
            int[] w = new int[5];
            for (int k = 0; k < 5; k++) {
                w[k] = Checks.word(bytes, i + 4 * k);
            }
            due("feed", x.feed(w[0], w[1], w[2], w[3], w[4]), model.feed(w));
        }
        due("end", x.end(bytes.length), model.end(bytes.length));
        if (yard) {
            due("yard of '" + text + "'", x.yard(), model.yard());
        } else {
            due("rule of '" + text + "'", x.rule(), model.rule());
        }
    }

    // ---- calls

    private void call() {
        int a = about(5);
        int b = about(8);
        int rule = about(3) - 1;
        int set = about(255) & (below(2) == 0 ? -1 : 15);
        switch (below(17)) {
            case 0, 1, 2, 3 -> {
                int n = 1 + below(6);
                int by = below(3) - 1;
                for (int i = 0; i < 6; i++) {
                    int plank = about(23);
                    int ship = about(4) - 1;
                    due("move(" + plank + "," + ship + ")", x.move(plank, ship) ? 1 : 0, model.move(plank, ship) ? 1 : 0);
                }
                due("days(" + by + "," + n + ")", x.days(by, n), model.days(by, n));
            }
            case 4 -> {
                int n = about(100);
                due("days(" + rule + "," + n + ")", x.days(rule, n), model.days(rule, n));
            }
            case 5 -> due("lacks(" + a + "," + b + ")", x.lacks(a, b & 3), model.lacks(a, b & 3));
            case 6 -> due("together(" + set + ")", x.together(set), model.together(set));
            case 7 -> due("cut(" + set + ")", x.cut(set, a & 1), model.cut(set, a & 1));
            case 8 -> due("most(" + (a & 1) + ")", x.most(a & 1), model.most(a & 1));
            case 9 -> due("willDo(" + b + ")", x.willDo(b), model.willDo(b));
            case 10 -> due("same(" + (b & 3) + "," + a + ")", x.same(b & 3, a), model.same(b & 3, a));
            case 11 -> due("wreck(" + a + "," + (b - 1) + ")", x.wreck(a, b - 1), model.wreck(a, b - 1));
            case 12 -> due("dealt(" + (b & 1) + ")", x.dealt(b & 1), model.dealt(b & 1));
            case 13 -> {
                int n = about(100);
                int what = about(2);
                due("ahead(" + rule + "," + n + "," + what + ")", x.ahead(rule, n, what), model.ahead(rule, n, what));
            }
            case 14 -> {
                int n = below(2) == 0 ? about(100) : about(12);
                int m = about(20);
                int p = about(100);
                due("years(" + rule + "," + m + "," + n + "," + p + ")", x.years(rule, m, n, p, a & 1),
                    model.years(rule, m, n, p, a & 1));
            }
            case 15 -> due("seed", x.seed(set * 7654321), model.seed(set * 7654321));
            default -> {
                int k = about(3);
                boolean make = below(2) == 0;
                due("image or back " + k, make ? x.image(k) : x.back(k), make ? model.image(k) : model.back(k));
            }
        }
    }

    private void state() {
        for (int what = -1; what < 13; what++) {
            due("count(" + what + ")", x.count(what), model.count(what));
        }
        for (int what = -1; what < 10; what++) {
            int ship = about(5);
            int plank = about(23);
            int voyage = about(7);
            due("ship(" + ship + "," + what + ")", x.ship(ship, what), model.ship(ship, what));
            due("plank(" + plank + "," + what + ")", x.plank(plank, what), model.plank(plank, what));
            due("voyage(" + voyage + "," + what + ")", x.voyage(voyage, what), model.voyage(voyage, what));
        }
        due("unlike", x.unlike(), model.unlike());
    }
}
