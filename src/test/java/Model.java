import java.util.ArrayList;
import java.util.Arrays;
import java.util.List;

/**
 * The document once more, in the plainest form and with the whole Java library: what ModelTest
 * compares the class with. It shares no code with it.
 */
final class Model {
    static final class Fault extends RuntimeException {
        private static final long serialVersionUID = 1;
        final int number;

        Fault(int place, int why) {
            super(null, null, false, false);
            number = 1 + 8 * place + why;
        }
    }

    /** A token: a word, a number, a sign, or the end. */
    record Token(int place, String text) {
        boolean isNumber() {
            return !text.isEmpty() && Character.isDigit(text.charAt(0));
        }
    }

    interface Sum {
        long of(long[] words);
    }

    interface Test {
        boolean of(long[] words);
    }

    record Clause(Sum sum, Test test) {
    }

    static final List<String> WORDS =
        List.of("plank", "kind", "rot", "owner", "ship", "from", "own", "day", "moves", "length");

    static final class Plank {
        int kind;
        int rot;
        int owner;
        int in = -1;
        boolean lost;

        Plank copy() {
            Plank p = new Plank();
            p.kind = kind;
            p.rot = rot;
            p.owner = owner;
            p.in = in;
            p.lost = lost;
            return p;
        }
    }

    static final class Ship {
        int[] must;
        int state;
        int earned;
        int on = -1;

        Ship copy() {
            Ship s = new Ship();
            s.must = must;
            s.state = state;
            s.earned = earned;
            s.on = on;
            return s;
        }
    }

    static final class Voyage {
        int ship;
        int from;
        int to;
        int pay;
        int state;

        Voyage copy() {
            Voyage v = new Voyage();
            v.ship = ship;
            v.from = from;
            v.to = to;
            v.pay = pay;
            v.state = state;
            return v;
        }
    }

    static final class World {
        boolean told;
        int kinds;
        int hands;
        int day;
        int today;
        int moves;
        int earned;
        long x;
        List<Ship> ships = new ArrayList<>();
        List<Plank> planks = new ArrayList<>();
        List<Voyage> voyages = new ArrayList<>();

        World copy() {
            World w = new World();
            w.told = told;
            w.kinds = kinds;
            w.hands = hands;
            w.day = day;
            w.today = today;
            w.moves = moves;
            w.earned = earned;
            w.x = x;
            ships.forEach(s -> w.ships.add(s.copy()));
            planks.forEach(p -> w.planks.add(p.copy()));
            voyages.forEach(v -> w.voyages.add(v.copy()));
            return w;
        }

        List<Plank> soundIn(int ship) {
            return planks.stream().filter(p -> p.in == ship && p.rot > 0).toList();
        }

        int lacks(int ship, int kind) {
            long has = soundIn(ship).stream().filter(p -> p.kind == kind).count();
            return (int) Math.max(0, ships.get(ship).must[kind] - has);
        }

        boolean whole(int ship) {
            for (int k = 0; k < kinds; k++) {
                if (lacks(ship, k) > 0) {
                    return false;
                }
            }
            return true;
        }

        int lost() {
            int bits = 0;
            for (int s = 0; s < ships.size(); s++) {
                bits |= ships.get(s).state == 2 ? 1 << s : 0;
            }
            return bits;
        }
    }

    private final List<Integer> tape = new ArrayList<>();
    private final List<List<Clause>> rules = new ArrayList<>();
    private World now = new World();
    private final World[] images = new World[4];

    // ---- texts

    private List<Token> tokens;
    private int at;
    private int counted;

    private void scan() {
        tokens = new ArrayList<>();
        at = 0;
        counted = 0;
        int i = 0;
        while (i < tape.size()) {
            int c = tape.get(i);
            int start = i;
            StringBuilder b = new StringBuilder();
            if (c == ' ') {
                i++;
                continue;
            }
            if (c >= '0' && c <= '9') {
                while (i < tape.size() && tape.get(i) >= '0' && tape.get(i) <= '9') {
                    b.append((char) (int) tape.get(i++));
                }
            } else if (c >= 'a' && c <= 'z') {
                while (i < tape.size() && tape.get(i) >= 'a' && tape.get(i) <= 'z') {
                    b.append((char) (int) tape.get(i++));
                }
            } else {
                b.append((char) c);
                i++;
                if ((c == '<' || c == '>') && i < tape.size() && tape.get(i) == '=') {
                    b.append('=');
                    i++;
                }
            }
            tokens.add(new Token(start, b.toString()));
        }
        tokens.add(new Token(tape.size(), ""));
    }

    private Token peek() {
        return tokens.get(at);
    }

    private boolean accept(String text) {
        if (peek().text.equals(text)) {
            at++;
            return true;
        }
        return false;
    }

    private int number(int least, int most) {
        Token t = peek();
        if (!t.isNumber()) {
            throw new Fault(t.place, 0);
        }
        if (t.text.length() > 5 || Integer.parseInt(t.text) < least || Integer.parseInt(t.text) > most) {
            throw new Fault(t.place, 1);
        }
        at++;
        return Integer.parseInt(t.text);
    }

    private void separator() {
        if (!peek().text.isEmpty() && !peek().text.equals(";")) {
            throw new Fault(peek().place, 0);
        }
    }

    private World readYard() {
        scan();
        World w = new World();
        w.told = true;
        int clauses = 0;
        do {
            Token t = peek();
            boolean known = List.of("kinds", "ship", "plank", "voyage", "hands").contains(t.text);
            if (!known) {
                throw new Fault(t.place, 0);
            }
            clauses++;
            boolean tooMany = clauses > 40
                || t.text.equals("kinds") && w.kinds > 0
                || !t.text.equals("kinds") && w.kinds == 0
                || t.text.equals("hands") && w.hands > 0
                || t.text.equals("ship") && w.ships.size() == 6
                || t.text.equals("plank") && w.planks.size() == 24
                || t.text.equals("voyage") && w.voyages.size() == 8;
            if (tooMany) {
                throw new Fault(t.place, 4);
            }
            at++;
            switch (t.text) {
                case "kinds" -> w.kinds = number(1, 4);
                case "hands" -> w.hands = number(1, 30);
                case "ship" -> {
                    Ship s = new Ship();
                    s.must = new int[w.kinds];
                    for (int k = 0; k < w.kinds; k++) {
                        s.must[k] = number(0, 5);
                    }
                    w.ships.add(s);
                }
                case "plank" -> {
                    Plank p = new Plank();
                    p.kind = number(0, w.kinds - 1);
                    p.rot = number(1, 99);
                    p.owner = number(0, w.ships.size() - 1);
                    w.planks.add(p);
                }
                default -> {
                    Voyage v = new Voyage();
                    v.ship = number(0, w.ships.size() - 1);
                    v.from = number(0, 98);
                    v.to = number(v.from + 1, 99);
                    v.pay = number(0, 999);
                    w.voyages.add(v);
                }
            }
            separator();
        } while (accept(";"));
        if (w.hands == 0) {
            w.hands = 30;
        }
        return w;
    }

    private List<Clause> readRule() {
        scan();
        List<Clause> clauses = new ArrayList<>();
        do {
            Token t = peek();
            if (!t.text.equals("take")) {
                throw new Fault(t.place, 0);
            }
            if (clauses.size() == 12) {
                throw new Fault(t.place, 4);
            }
            at++;
            Sum sum = readSum();
            Test test = accept("if") ? readTest(0) : words -> true;
            separator();
            clauses.add(new Clause(sum, test));
        } while (accept(";"));
        return clauses;
    }

    private Test readTest(int depth) {
        Test left = readPart(depth);
        while (accept("or")) {
            Test a = left;
            Test b = readPart(depth);
            left = words -> a.of(words) || b.of(words);
        }
        return left;
    }

    private Test readPart(int depth) {
        Test left = readFact(depth);
        while (accept("and")) {
            Test a = left;
            Test b = readFact(depth);
            left = words -> a.of(words) && b.of(words);
        }
        return left;
    }

    private Test readFact(int depth) {
        Token t = peek();
        if (t.text.equals("not") || t.text.equals("[")) {
            if (depth == 10) {
                throw new Fault(t.place, 2);
            }
            at++;
            if (t.text.equals("not")) {
                Test a = readFact(depth + 1);
                return words -> !a.of(words);
            }
            Test inner = readTest(depth + 1);
            if (!accept("]")) {
                throw new Fault(peek().place, 0);
            }
            return inner;
        }
        Sum a = readSum();
        Token sign = peek();
        if (!List.of("<", "<=", "=", ">=", ">").contains(sign.text)) {
            throw new Fault(sign.place, 0);
        }
        countAt(sign);
        at++;
        Sum b = readSum();
        return words -> {
            int order = Long.compare(a.of(words), b.of(words));
            return switch (sign.text) {
                case "<" -> order < 0;
                case "<=" -> order <= 0;
                case "=" -> order == 0;
                case ">=" -> order >= 0;
                default -> order > 0;
            };
        };
    }

    private void countAt(Token t) {
        counted++;
        if (counted > 60) {
            throw new Fault(t.place, 3);
        }
    }

    private Sum readSum() {
        Sum left = readTerm();
        while (peek().text.equals("+") || peek().text.equals("-")) {
            boolean plus = tokens.get(at++).text.equals("+");
            Sum a = left;
            Sum b = readTerm();
            left = words -> plus ? a.of(words) + b.of(words) : a.of(words) - b.of(words);
        }
        return left;
    }

    private Sum readTerm() {
        Sum left = readValue();
        while (peek().text.equals("*") || peek().text.equals("/")) {
            boolean times = tokens.get(at++).text.equals("*");
            Sum a = left;
            Sum b = readValue();
            left = words -> {
                long d = b.of(words);
                return times ? a.of(words) * d : d == 0 ? 0 : a.of(words) / d;
            };
        }
        return left;
    }

    private Sum readValue() {
        Token t = peek();
        int word = WORDS.indexOf(t.text);
        if (word < 0 && !t.isNumber()) {
            throw new Fault(t.place, 0);
        }
        if (t.isNumber() && t.text.length() > 5) {
            throw new Fault(t.place, 1);
        }
        countAt(t);
        at++;
        if (word >= 0) {
            return words -> words[word];
        }
        long value = Long.parseLong(t.text);
        return words -> value;
    }

    // ---- days

    private List<Clause> ruleOf(int rule) {
        return rule < 0 ? null : rules.get(rule);
    }

    private void pass(World w, List<Clause> rule) {
        for (int s = 0; s < w.ships.size(); s++) {
            Ship ship = w.ships.get(s);
            if (ship.state == 1 && w.voyages.get(ship.on).to == w.day) {
                Voyage v = w.voyages.get(ship.on);
                List<Plank> sound = w.soundIn(s);
                int part = v.pay / (sound.size() + 1);
                sound.forEach(p -> w.ships.get(p.owner).earned += part);
                ship.earned += part + v.pay % (sound.size() + 1);
                w.earned += v.pay;
                v.state = 2;
                ship.state = 0;
                ship.on = -1;
            }
        }
        for (int i = 0; i < w.voyages.size(); i++) {
            Voyage v = w.voyages.get(i);
            if (v.from == w.day && w.ships.get(v.ship).state == 0) {
                if (rule != null) {
                    gather(w, v, rule);
                }
                if (w.whole(v.ship)) {
                    w.ships.get(v.ship).state = 1;
                    w.ships.get(v.ship).on = i;
                    v.state = 1;
                }
            }
        }
        for (int s = 0; s < w.ships.size(); s++) {
            Ship ship = w.ships.get(s);
            if (ship.state == 1) {
                List<Plank> sound = w.soundIn(s);
                sound.forEach(p -> p.rot--);
                Voyage v = w.voyages.get(ship.on);
                if (sound.stream().anyMatch(p -> p.rot == 0) && v.to != w.day + 1) {
                    ship.state = 2;
                    ship.on = -1;
                    v.state = 3;
                    for (Plank p : w.planks) {
                        p.lost |= p.in == s;
                    }
                }
            }
        }
        w.day++;
        w.today = 0;
    }

    private void gather(World w, Voyage v, List<Clause> rule) {
        for (int k = 0; k < w.kinds; k++) {
            while (w.lacks(v.ship, k) > 0 && w.today < w.hands) {
                Plank best = null;
                long least = 0;
                for (int i = 0; i < w.planks.size(); i++) {
                    Plank p = w.planks.get(i);
                    if (p.kind != k || p.rot == 0 || !open(w, p, v)) {
                        continue;
                    }
                    long[] words = {i, k, p.rot, p.owner, v.ship, p.in < 0 ? 99 : p.in, p.owner == v.ship ? 1 : 0,
                        w.day, w.today, v.to - v.from};
                    for (Clause c : rule) {
                        if (c.test.of(words)) {
                            long sum = c.sum.of(words);
                            if (best == null || sum < least) {
                                best = p;
                                least = sum;
                            }
                            break;
                        }
                    }
                }
                if (best == null) {
                    break;
                }
                best.in = v.ship;
                w.today++;
                w.moves++;
            }
        }
    }

    private static boolean open(World w, Plank p, Voyage v) {
        if (p.in < 0) {
            return true;
        }
        return p.in != v.ship && w.ships.get(p.in).state == 0
            && w.voyages.stream().noneMatch(o -> o.ship == p.in && o.from == w.day);
    }

    // ---- the face

    int feed(int... numbers) {
        if (tape.size() + 20 > 400) {
            return -1;
        }
        for (int n : numbers) {
            for (int shift = 24; shift >= 0; shift -= 8) {
                tape.add(n >>> shift & 255);
            }
        }
        return tape.size();
    }

    int end(int n) {
        if (n < 0 || n > tape.size()) {
            return -1;
        }
        tape.subList(n, tape.size()).clear();
        return n;
    }

    int yard() {
        try {
            World w = readYard();
            w.x = now.x;
            now = w;
            return w.ships.size();
        } catch (Fault f) {
            return -2 - f.number;
        } finally {
            tape.clear();
        }
    }

    int rule() {
        if (rules.size() == 6) {
            return -1;
        }
        try {
            rules.add(readRule());
            return rules.size() - 1;
        } catch (Fault f) {
            return -2 - f.number;
        } finally {
            tape.clear();
        }
    }

    private static boolean in(int i, List<?> list) {
        return i >= 0 && i < list.size();
    }

    private static boolean in(int i, int least, int most) {
        return i >= least && i <= most;
    }

    int ship(int ship, int what) {
        if (!in(ship, now.ships) || !in(what, 0, 4 + now.kinds)) {
            return -1;
        }
        Ship s = now.ships.get(ship);
        return switch (what) {
            case 0 -> s.state;
            case 1 -> now.soundIn(ship).size();
            case 2 -> now.whole(ship) ? 1 : 0;
            case 3 -> s.earned;
            case 4 -> s.on;
            default -> s.must[what - 5];
        };
    }

    int plank(int plank, int what) {
        if (!in(plank, now.planks) || !in(what, 0, 4)) {
            return -2;
        }
        Plank p = now.planks.get(plank);
        return new int[] {p.kind, p.rot, p.owner, p.in, p.lost ? 1 : 0}[what];
    }

    int voyage(int voyage, int what) {
        if (!in(voyage, now.voyages) || !in(what, 0, 4)) {
            return -1;
        }
        Voyage v = now.voyages.get(voyage);
        return new int[] {v.ship, v.from, v.to, v.pay, v.state}[what];
    }

    boolean move(int plank, int ship) {
        if (!in(plank, now.planks) || ship != -1 && !in(ship, now.ships)) {
            return false;
        }
        Plank p = now.planks.get(plank);
        boolean may = p.rot > 0 && !p.lost && (p.in < 0 || now.ships.get(p.in).state != 1)
            && (ship < 0 || now.ships.get(ship).state == 0);
        if (!may || p.in == ship || now.today == now.hands) {
            return false;
        }
        p.in = ship;
        now.today++;
        now.moves++;
        return true;
    }

    private boolean isRule(int rule) {
        return rule == -1 || in(rule, rules);
    }

    int days(int rule, int n) {
        if (!now.told || !isRule(rule) || !in(n, 1, 100) || now.day + n > 200) {
            return -1;
        }
        for (int i = 0; i < n; i++) {
            pass(now, ruleOf(rule));
        }
        return now.day;
    }

    int lacks(int ship, int kind) {
        return in(ship, now.ships) && in(kind, 0, now.kinds - 1) ? now.lacks(ship, kind) : -1;
    }

    /** The day and the kind by which a set fails, or null. */
    private int[] fails(int set) {
        for (int day = 0; day < 100; day++) {
            int[] wanted = new int[now.kinds];
            int[] on = new int[now.ships.size()];
            for (int i = 0; i < now.voyages.size(); i++) {
                Voyage v = now.voyages.get(i);
                if ((set >> i & 1) == 1 && v.from <= day && day < v.to) {
                    on[v.ship]++;
                    for (int k = 0; k < now.kinds; k++) {
                        wanted[k] += now.ships.get(v.ship).must[k];
                    }
                }
            }
            for (int k = 0; k < now.kinds; k++) {
                int kind = k;
                if (wanted[k] > now.planks.stream().filter(p -> p.kind == kind && !p.lost).count()) {
                    return new int[] {day, k};
                }
            }
            if (Arrays.stream(on).anyMatch(n -> n > 1)) {
                return new int[] {day, 4};
            }
        }
        return null;
    }

    private boolean isSet(int set) {
        return in(set, 0, (1 << now.voyages.size()) - 1);
    }

    int together(int set) {
        return !isSet(set) ? -1 : fails(set) == null ? 1 : 0;
    }

    int cut(int set, int what) {
        if (!isSet(set) || !in(what, 0, 1)) {
            return -1;
        }
        int[] fail = fails(set);
        return fail == null ? -2 : fail[what];
    }

    private static int[] better(int[] best, int pay, int set) {
        int[] other = {pay, set};
        if (best == null || pay != best[0]) {
            return best == null || pay > best[0] ? other : best;
        }
        int few = Integer.compare(Integer.bitCount(set), Integer.bitCount(best[1]));
        return few < 0 || few == 0 && set < best[1] ? other : best;
    }

    int most(int what) {
        if (!now.told || !in(what, 0, 1)) {
            return -1;
        }
        int[] best = null;
        for (int set = (1 << now.voyages.size()) - 1; set >= 0; set--) {
            int pay = 0;
            for (int i = 0; i < now.voyages.size(); i++) {
                pay += (set >> i & 1) * now.voyages.get(i).pay;
            }
            if ((best == null || pay >= best[0]) && fails(set) == null) {
                best = better(best, pay, set);
            }
        }
        return best[what];
    }

    int willDo(int voyage) {
        if (!in(voyage, now.voyages)) {
            return -1;
        }
        Voyage v = now.voyages.get(voyage);
        int bits = 0;
        for (int k = 0; k < now.kinds; k++) {
            int kind = k;
            int must = now.ships.get(v.ship).must[k];
            List<Plank> able = new ArrayList<>(now.planks.stream().filter(p -> p.kind == kind && p.rot > 0 && !p.lost
                && (p.in < 0 || now.ships.get(p.in).state != 1) && p.rot >= v.to - v.from).toList());
            able.sort((a, b) -> Integer.compare(a.rot, b.rot));
            if (able.size() < must) {
                return -2;
            }
            for (Plank p : able.subList(0, must)) {
                bits |= 1 << now.planks.indexOf(p);
            }
        }
        return bits;
    }

    int same(int law, int ship) {
        if (!in(law, 0, 2) || !in(ship, now.ships)) {
            return -2;
        }
        List<Plank> hull = now.soundIn(ship).stream().filter(p -> !p.lost).toList();
        if (law == 0) {
            return hull.stream().filter(p -> p.kind == 0).findFirst().map(p -> p.owner).orElse(-1);
        }
        return law == 2 ? ship : mostOf(hull);
    }

    private static int mostOf(List<Plank> planks) {
        int[] of = new int[6];
        planks.forEach(p -> of[p.owner]++);
        int best = -1;
        for (int o = 0; o < 6; o++) {
            if (of[o] > 0 && (best < 0 || of[o] > of[best])) {
                best = o;
            }
        }
        return best;
    }

    int unlike() {
        if (!now.told) {
            return -1;
        }
        int bits = 0;
        for (int s = 0; s < now.ships.size(); s++) {
            boolean alike = same(0, s) == same(1, s) && same(1, s) == same(2, s);
            bits |= alike ? 0 : 1 << s;
        }
        return bits;
    }

    int wreck(int ship, int owner) {
        if (!in(ship, now.ships) || owner != -1 && !in(owner, now.ships)) {
            return -2;
        }
        List<Plank> hull = now.soundIn(ship);
        return owner == -1 ? mostOf(hull) : (int) hull.stream().filter(p -> p.owner == owner).count();
    }

    int dealt(int what) {
        if (!now.told || !in(what, 0, 1)) {
            return -1;
        }
        int[] best = null;
        for (int set = (1 << now.ships.size()) - 1; set >= 0; set--) {
            int bits = set;
            boolean can = (set & now.lost()) == 0;
            for (int k = 0; k < now.kinds && can; k++) {
                int kind = k;
                int must = 0;
                for (int s = 0; s < now.ships.size(); s++) {
                    must += (set >> s & 1) * now.ships.get(s).must[k];
                }
                can = must <= now.planks.stream().filter(p -> p.kind == kind && p.rot > 0 && !p.lost).count();
            }
            if (can) {
                int pay = now.voyages.stream().filter(v -> (bits >> v.ship & 1) == 1 && v.from >= now.day)
                    .mapToInt(v -> v.pay).sum();
                best = better(best, pay, set);
            }
        }
        return best[what];
    }

    int ahead(int rule, int n, int what) {
        if (!now.told || !isRule(rule) || !in(n, 0, 100) || !in(what, 0, 2)) {
            return -1;
        }
        World w = now.copy();
        for (int i = 0; i < n; i++) {
            pass(w, ruleOf(rule));
        }
        return new int[] {w.earned - now.earned, w.lost(), w.moves - now.moves}[what];
    }

    int seed(int x) {
        if (x < 0) {
            return -1;
        }
        int before = (int) now.x;
        now.x = x;
        return before;
    }

    int years(int rule, int m, int n, int p, int what) {
        if (!now.told || !isRule(rule) || !in(m, 1, 20) || !in(n, 1, 100) || !in(p, 0, 100) || !in(what, 0, 1)) {
            return -1;
        }
        long x = now.x;
        int[] sums = new int[2];
        for (int year = 0; year < m; year++) {
            World w = now.copy();
            for (int i = 0; i < n; i++) {
                pass(w, ruleOf(rule));
                for (int s = 0; s < w.ships.size(); s++) {
                    List<Plank> sound = w.soundIn(s);
                    if (w.ships.get(s).state == 1 && !sound.isEmpty()) {
                        x = (x * 1103515245L + 12345) % (1L << 31);
                        Plank first = sound.get(0);
                        first.rot -= x / 65536 % 100 < p && first.rot > 1 ? 1 : 0;
                    }
                }
            }
            sums[0] += w.earned - now.earned;
            sums[1] += Integer.bitCount(w.lost());
        }
        return sums[what];
    }

    int count(int what) {
        int[] counts = {now.kinds, now.ships.size(), now.planks.size(), now.voyages.size(), rules.size(), now.day,
            now.told ? now.hands - now.today : 0, now.earned, now.soundIn(-1).size(), now.moves, (int) now.x,
            tape.size()};
        return in(what, 0, 11) ? counts[what] : -1;
    }

    int image(int k) {
        if (!in(k, 0, 3)) {
            return -1;
        }
        images[k] = now.copy();
        return now.day;
    }

    int back(int k) {
        if (!in(k, 0, 3) || images[k] == null) {
            return -1;
        }
        now = images[k].copy();
        return now.day;
    }
}
