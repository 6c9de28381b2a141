import java.util.Arrays;

/** A yard of ships and planks, told in a language; ../shared/DOC.md says what each call answers. */
public final class NineTimbers {
    public static final int NONE = -1;

    /** The answer of calls "without these" where NONE already means something. */
    private static final int NOT_THERE = -2;
    /** The answer of cut for a set that can be. */
    private static final int CAN_BE = -2;
    /** A fault is answered as this less the fault. */
    private static final int FAULTY = -2;

    private static final int TAPE_BYTES = 400;
    private static final int FED_BYTES = 20;
    private static final int MAX_RULES = 6;
    private static final int MAX_IMAGES = 4;

    private static final int MAX_KINDS = 4;
    private static final int MAX_SHIPS = 6;
    private static final int MAX_PLANKS = 24;
    private static final int MAX_VOYAGES = 8;
    private static final int MAX_HANDS = 30;
    private static final int MAX_MUST = 5;
    private static final int MAX_ROT = 99;
    private static final int MAX_PAY = 999;
    /** Behind this day no voyage begins, goes on or ends. */
    private static final int LAST_VOYAGE_DAY = 99;
    private static final int LAST_DAY = 200;
    private static final int MAX_DAYS = 100;
    private static final int MAX_YEARS = 20;
    private static final int PERCENT = 100;

    private static final int ASHORE = 0;
    private static final int AT_SEA = 1;
    private static final int LOST = 2;

    private static final int NOT_BEGUN = 0;
    private static final int UNDER_WAY = 1;
    private static final int PAID = 2;
    private static final int GONE = 3;

    /** The CUT's kind that says a ship is on two voyages. */
    private static final int ON_TWO = 4;

    private static final int MAX_NUMBER_DIGITS = 5;
    private static final int MAX_YARD_CLAUSES = 40;
    private static final int MAX_RULE_CLAUSES = 12;
    private static final int MAX_DEPTH = 10;
    private static final int MAX_VALUES = 60;

    private static final int FAULT_SIGN = 0;
    private static final int FAULT_NUMBER = 1;
    private static final int FAULT_DEPTH = 2;
    private static final int FAULT_VALUES = 3;
    private static final int FAULT_CLAUSE = 4;

    private static final int CLAUSE_KINDS = 0;
    private static final int CLAUSE_SHIP = 1;
    private static final int CLAUSE_PLANK = 2;
    private static final int CLAUSE_VOYAGE = 3;
    private static final int CLAUSE_HANDS = 4;

    /** A rule's steps: first the words, then the signs; NUMBER_STEP and above are numbers. */
    private static final int WORD_PLANK = 0;
    private static final int WORD_KIND = 1;
    private static final int WORD_ROT = 2;
    private static final int WORD_OWNER = 3;
    private static final int WORD_SHIP = 4;
    private static final int WORD_FROM = 5;
    private static final int WORD_OWN = 6;
    private static final int WORD_DAY = 7;
    private static final int WORD_MOVES = 8;
    private static final int WORD_LENGTH = 9;
    private static final int WORDS = 10;
    private static final int STEP_ADD = 10;
    private static final int STEP_SUBTRACT = 11;
    private static final int STEP_MULTIPLY = 12;
    private static final int STEP_DIVIDE = 13;
    private static final int STEP_LESS = 14;
    private static final int STEP_AT_MOST = 15;
    private static final int STEP_EQUAL = 16;
    private static final int STEP_AT_LEAST = 17;
    private static final int STEP_MORE = 18;
    private static final int STEP_AND = 19;
    private static final int STEP_OR = 20;
    private static final int STEP_NOT = 21;
    private static final int STEP_TAKE = 22;
    private static final int STEP_TAKE_IF = 23;
    private static final int NUMBER_STEP = 100;

    /** What the word from says of a plank on the heap. */
    private static final int FROM_HEAP = 99;

    private final Tape tape;
    private final YardReader yardReader;
    private final RuleReader ruleReader;
    private final Rule[] rules;
    private int ruleCount;
    private final Calendar calendar;
    private final Plans plans;
    private State now;
    /** Where a yard is read into, and where days go by that nothing stays of. */
    private State spare;
    private final State[] images;

    public NineTimbers() {
        tape = new Tape();
        Reader reader = new Reader(tape);
        yardReader = new YardReader(reader);
        ruleReader = new RuleReader(reader);
        rules = new Rule[MAX_RULES];
        calendar = new Calendar();
        plans = new Plans();
        now = new State();
        spare = new State();
        images = new State[MAX_IMAGES];
    }

    public int feed(int a, int b, int c, int d, int e) {
        if (tape.length > TAPE_BYTES - FED_BYTES) {
            return NONE;
        }
        tape.append(a);
        tape.append(b);
        tape.append(c);
        tape.append(d);
        tape.append(e);
        return tape.length;
    }

    public int end(int n) {
        if (n < 0 || n > tape.length) {
            return NONE;
        }
        tape.length = n;
        return n;
    }

    public int yard() {
        int fault = yardReader.read(spare.yard);
        tape.length = 0;
        if (fault != 0) {
            return FAULTY - fault;
        }
        spare.begin(now.x);
        State before = now;
        now = spare;
        spare = before;
        return now.yard.ships;
    }

    public int rule() {
        if (ruleCount >= MAX_RULES) {
            return NONE;
        }
        int fault = ruleReader.read();
        tape.length = 0;
        if (fault != 0) {
            return FAULTY - fault;
        }
        rules[ruleCount] = ruleReader.made();
        ruleCount++;
        return ruleCount - 1;
    }

    public int ship(int ship, int what) {
        if (!now.hasShip(ship)) {
            return NONE;
        }
        switch (what) {
            case 0:
                return now.stand[ship];
            case 1:
                return now.soundIn(ship);
            case 2:
                return now.isWhole(ship) ? 1 : 0;
            case 3:
                return now.earnedBy[ship];
            case 4:
                return now.on[ship];
            default:
                return what >= 5 && now.hasKind(what - 5) ? now.yard.mustHave(ship, what - 5) : NONE;
        }
    }

    public int plank(int plank, int what) {
        if (!now.hasPlank(plank)) {
            return NOT_THERE;
        }
        switch (what) {
            case 0:
                return now.yard.kindOf[plank];
            case 1:
                return now.rot[plank];
            case 2:
                return now.yard.ownerOf[plank];
            case 3:
                return now.in[plank];
            case 4:
                return now.lost[plank] ? 1 : 0;
            default:
                return NOT_THERE;
        }
    }

    public int voyage(int voyage, int what) {
        if (!now.hasVoyage(voyage)) {
            return NONE;
        }
        switch (what) {
            case 0:
                return now.yard.shipOf[voyage];
            case 1:
                return now.yard.from[voyage];
            case 2:
                return now.yard.to[voyage];
            case 3:
                return now.yard.pay[voyage];
            case 4:
                return now.course[voyage];
            default:
                return NONE;
        }
    }

    public boolean move(int plank, int ship) {
        boolean there = now.hasPlank(plank) && (ship == NONE || now.hasShip(ship));
        if (!there || now.handsLeft() <= 0 || now.in[plank] == ship || !now.isFree(plank)) {
            return false;
        }
        if (ship != NONE && now.stand[ship] != ASHORE) {
            return false;
        }
        now.put(plank, ship);
        return true;
    }

    public int days(int rule, int n) {
        if (!now.told || !hasRule(rule) || n < 1 || n > MAX_DAYS || now.day + n > LAST_DAY) {
            return NONE;
        }
        for (int i = 0; i < n; i++) {
            calendar.pass(now, ruleOf(rule));
        }
        return now.day;
    }

    public int lacks(int ship, int kind) {
        return now.hasShip(ship) && now.hasKind(kind) ? now.tooFew(ship, kind) : NONE;
    }

    public int together(int voyages) {
        if (!hasVoyages(voyages)) {
            return NONE;
        }
        plans.look(now);
        return plans.failingDay(voyages) == NONE ? 1 : 0;
    }

    public int cut(int voyages, int what) {
        if (!hasVoyages(voyages) || what < 0 || what > 1) {
            return NONE;
        }
        plans.look(now);
        int day = plans.failingDay(voyages);
        if (day == NONE) {
            return CAN_BE;
        }
        return what == 0 ? day : plans.failure(voyages, day);
    }

    public int most(int what) {
        if (!now.told || what < 0 || what > 1) {
            return NONE;
        }
        plans.look(now);
        int best = plans.bestVoyages();
        return what == 0 ? plans.payOfVoyages(best) : best;
    }

    public int willDo(int voyage) {
        if (!now.hasVoyage(voyage)) {
            return NONE;
        }
        plans.look(now);
        return plans.enduringPlanks(voyage);
    }

    public int same(int law, int ship) {
        if (law < 0 || law > 2 || !now.hasShip(ship)) {
            return NOT_THERE;
        }
        return now.identity(law, ship);
    }

    public int unlike() {
        if (!now.told) {
            return NONE;
        }
        int hulls = 0;
        for (int ship = 0; ship < now.yard.ships; ship++) {
            if (now.identity(0, ship) != ship || now.identity(1, ship) != ship) {
                hulls |= 1 << ship;
            }
        }
        return hulls;
    }

    public int wreck(int ship, int owner) {
        if (!now.hasShip(ship) || owner != NONE && !now.hasShip(owner)) {
            return NOT_THERE;
        }
        return owner == NONE ? now.heaviestLoser(ship) : now.soundOwnedIn(ship, owner);
    }

    public int dealt(int what) {
        if (!now.told || what < 0 || what > 1) {
            return NONE;
        }
        plans.look(now);
        int best = plans.bestShips();
        return what == 0 ? plans.payOfShips(best) : best;
    }

    public int ahead(int rule, int n, int what) {
        if (!now.told || !hasRule(rule) || n < 0 || n > MAX_DAYS || what < 0 || what > 2) {
            return NONE;
        }
        spare.copy(now);
        for (int i = 0; i < n && spare.day <= LAST_VOYAGE_DAY; i++) {
            calendar.pass(spare, ruleOf(rule));
        }
        switch (what) {
            case 0:
                return spare.earned - now.earned;
            case 1:
                return spare.lostShips();
            default:
                return spare.moves - now.moves;
        }
    }

    public int seed(int x) {
        if (x < 0) {
            return NONE;
        }
        int before = now.x;
        now.x = x;
        return before;
    }

    public int years(int rule, int m, int n, int p, int what) {
        if (!now.told || !hasRule(rule) || m < 1 || m > MAX_YEARS || n < 1 || n > MAX_DAYS) {
            return NONE;
        }
        if (p < 0 || p > PERCENT || what < 0 || what > 1) {
            return NONE;
        }
        int earned = 0;
        int lost = 0;
        int x = now.x;
        for (int year = 0; year < m; year++) {
            spare.copy(now);
            spare.x = x;
            for (int i = 0; i < n && spare.day <= LAST_VOYAGE_DAY; i++) {
                calendar.pass(spare, ruleOf(rule));
                spare.drawForShips(p);
            }
            x = spare.x;
            earned += spare.earned - now.earned;
            lost += Integer.bitCount(spare.lostShips());
        }
        return what == 0 ? earned : lost;
    }

    public int count(int what) {
        switch (what) {
            case 0:
                return now.yard.kinds;
            case 1:
                return now.yard.ships;
            case 2:
                return now.yard.planks;
            case 3:
                return now.yard.voyages;
            case 4:
                return ruleCount;
            case 5:
                return now.day;
            case 6:
                return now.handsLeft();
            case 7:
                return now.earned;
            case 8:
                return now.soundIn(NONE);
            case 9:
                return now.moves;
            case 10:
                return now.x;
            case 11:
                return tape.length;
            default:
                return NONE;
        }
    }

    public int image(int k) {
        if (k < 0 || k >= MAX_IMAGES) {
            return NONE;
        }
        if (images[k] == null) {
            images[k] = new State();
        }
        images[k].copy(now);
        return now.day;
    }

    public int back(int k) {
        if (k < 0 || k >= MAX_IMAGES || images[k] == null) {
            return NONE;
        }
        now.copy(images[k]);
        return now.day;
    }

    private boolean hasRule(int rule) {
        return rule >= NONE && rule < ruleCount;
    }

    /** The rule, or null where nobody moves a plank. */
    private Rule ruleOf(int rule) {
        return rule >= 0 && rule < ruleCount ? rules[rule] : null;
    }

    private boolean hasVoyages(int voyages) {
        return voyages >= 0 && voyages < 1 << now.yard.voyages;
    }

    /** The bytes that texts are told by. */
    private static final class Tape {
        final byte[] bytes = new byte[TAPE_BYTES];
        int length;

        void append(int number) {
            for (int shift = 24; shift >= 0 && length < TAPE_BYTES; shift -= 8) {
                bytes[length] = (byte) (number >> shift);
                length++;
            }
        }
    }

    /**
     * Goes along the tape sign by sign, and keeps the first fault. Its place is never on a blank;
     * a fault puts it at the end, so that whoever reads on finds nothing more.
     */
    private static final class Reader {
        static final int END = -1;

        private final Tape tape;
        private int place;
        private int fault;

        Reader(Tape tape) {
            this.tape = tape;
        }

        void open() {
            place = 0;
            fault = 0;
            skip(0);
        }

        int fault() {
            return fault;
        }

        void fail(int why) {
            if (fault == 0) {
                fault = 1 + 8 * place + why;
            }
            place = tape.length;
        }

        /** The sign at the place, or END. */
        int sign() {
            return place < tape.length ? tape.bytes[place] & 255 : END;
        }

        /** Whether this sign stands right behind the one at the place. */
        boolean isNext(int sign) {
            return place + 1 < tape.length && tape.bytes[place + 1] == sign;
        }

        /** Goes on behind so many bytes and the blanks there. */
        void skip(int bytes) {
            place = Math.min(place + bytes, tape.length);
            while (place < tape.length && tape.bytes[place] == ' ') {
                place++;
            }
        }

        boolean takes(int sign) {
            if (sign() != sign) {
                return false;
            }
            skip(1);
            return true;
        }

        /** Whether the letters at the place, as far as they go on, are this word. */
        boolean isAt(String word) {
            int end = place + word.length();
            if (end > tape.length) {
                return false;
            }
            for (int i = place; i < end; i++) {
                if (tape.bytes[i] != word.charAt(i - place)) {
                    return false;
                }
            }
            return end == tape.length || tape.bytes[end] < 'a' || tape.bytes[end] > 'z';
        }

        boolean takesWord(String word) {
            if (!isAt(word)) {
                return false;
            }
            skip(word.length());
            return true;
        }

        /** How many digits stand at the place. */
        int digits() {
            int end = place;
            while (end < tape.length && tape.bytes[end] >= '0' && tape.bytes[end] <= '9') {
                end++;
            }
            return end - place;
        }

        /** The number that so many digits at the place are. */
        int valueOf(int digits) {
            int value = 0;
            for (int i = place; i < place + digits && i < tape.length; i++) {
                value = value * 10 + tape.bytes[i] - '0';
            }
            return value;
        }

        /** Whether another clause follows; what is neither its sign nor the end is a fault. */
        boolean nextClause() {
            if (takes(';')) {
                return true;
            }
            if (sign() != END) {
                fail(FAULT_SIGN);
            }
            return false;
        }
    }

    /** Reads a yard's text. */
    private static final class YardReader {
        private final Reader reader;
        private Yard yard;

        YardReader(Reader reader) {
            this.reader = reader;
        }

        /** Reads the tape into a yard, whatever was in it: its fault, or 0. */
        int read(Yard into) {
            yard = into;
            yard.clear();
            reader.open();
            boolean more = true;
            for (int clause = 0; more && clause <= MAX_YARD_CLAUSES; clause++) {
                readClause(clause);
                more = reader.nextClause();
            }
            if (yard.hands == 0) {
                yard.hands = MAX_HANDS;
            }
            return reader.fault();
        }

        private void readClause(int clause) {
            int which = clauseAt();
            if (which == NONE) {
                reader.fail(FAULT_SIGN);
            } else if (clause >= MAX_YARD_CLAUSES || (clause == 0) != (which == CLAUSE_KINDS) || isFull(which)) {
                reader.fail(FAULT_CLAUSE);
            } else {
                readParts(which);
            }
        }

        private int clauseAt() {
            if (reader.isAt("kinds")) {
                return CLAUSE_KINDS;
            }
            if (reader.isAt("ship")) {
                return CLAUSE_SHIP;
            }
            if (reader.isAt("plank")) {
                return CLAUSE_PLANK;
            }
            if (reader.isAt("voyage")) {
                return CLAUSE_VOYAGE;
            }
            return reader.isAt("hands") ? CLAUSE_HANDS : NONE;
        }

        /** Whether one more clause of that kind is too many. */
        private boolean isFull(int which) {
            switch (which) {
                case CLAUSE_SHIP:
                    return yard.ships >= MAX_SHIPS;
                case CLAUSE_PLANK:
                    return yard.planks >= MAX_PLANKS;
                case CLAUSE_VOYAGE:
                    return yard.voyages >= MAX_VOYAGES;
                case CLAUSE_HANDS:
                    return yard.hands != 0;
                default:
                    return false;
            }
        }

        private void readParts(int which) {
            switch (which) {
                case CLAUSE_KINDS:
                    reader.takesWord("kinds");
                    yard.kinds = number(1, MAX_KINDS);
                    break;
                case CLAUSE_SHIP:
                    reader.takesWord("ship");
                    readShip();
                    break;
                case CLAUSE_PLANK:
                    reader.takesWord("plank");
                    readPlank();
                    break;
                case CLAUSE_VOYAGE:
                    reader.takesWord("voyage");
                    readVoyage();
                    break;
                default:
                    reader.takesWord("hands");
                    yard.hands = number(1, MAX_HANDS);
                    break;
            }
        }

        private void readShip() {
            for (int kind = 0; kind < yard.kinds; kind++) {
                yard.must[yard.ships * MAX_KINDS + kind] = number(0, MAX_MUST);
            }
            yard.ships++;
        }

        private void readPlank() {
            yard.kindOf[yard.planks] = number(0, yard.kinds - 1);
            yard.rotOf[yard.planks] = number(1, MAX_ROT);
            yard.ownerOf[yard.planks] = number(0, yard.ships - 1);
            yard.planks++;
        }

        private void readVoyage() {
            yard.shipOf[yard.voyages] = number(0, yard.ships - 1);
            int from = number(0, LAST_VOYAGE_DAY - 1);
            yard.from[yard.voyages] = from;
            yard.to[yard.voyages] = number(from + 1, LAST_VOYAGE_DAY);
            yard.pay[yard.voyages] = number(0, MAX_PAY);
            yard.voyages++;
        }

        /** The number at the place, which must be from least to most; 0 where it fails. */
        private int number(int least, int most) {
            int digits = reader.digits();
            if (digits == 0) {
                reader.fail(FAULT_SIGN);
                return 0;
            }
            int value = digits > MAX_NUMBER_DIGITS ? NONE : reader.valueOf(digits);
            if (value < least || value > most) {
                reader.fail(FAULT_NUMBER);
                return 0;
            }
            reader.skip(digits);
            return value;
        }
    }

    /** Reads a rule's text into steps for a stack: each value and sign behind what it works on. */
    private static final class RuleReader {
        private final Reader reader;
        /** Each step stands for at least one byte of the text. */
        private final int[] steps = new int[TAPE_BYTES];
        private int size;
        private int values;

        RuleReader(Reader reader) {
            this.reader = reader;
        }

        /** Reads the tape: its fault, or 0. */
        int read() {
            size = 0;
            values = 0;
            reader.open();
            boolean more = true;
            for (int clause = 0; more && clause <= MAX_RULE_CLAUSES; clause++) {
                if (clause == MAX_RULE_CLAUSES && reader.isAt("take")) {
                    reader.fail(FAULT_CLAUSE);
                } else if (!reader.takesWord("take")) {
                    reader.fail(FAULT_SIGN);
                }
                readSum();
                if (reader.takesWord("if")) {
                    readTest(0);
                    add(STEP_TAKE_IF);
                } else {
                    add(STEP_TAKE);
                }
                more = reader.nextClause();
            }
            return reader.fault();
        }

        /** The rule that was read. */
        Rule made() {
            return new Rule(Arrays.copyOf(steps, size));
        }

        /** An or waits until the facts that and joins behind it are read. */
        private void readTest(int depth) {
            boolean waits = false;
            readFact(depth);
            for (int facts = 1; facts < TAPE_BYTES; facts++) {
                if (reader.takesWord("and")) {
                    readFact(depth);
                    add(STEP_AND);
                } else if (reader.takesWord("or")) {
                    if (waits) {
                        add(STEP_OR);
                    }
                    waits = true;
                    readFact(depth);
                } else {
                    break;
                }
            }
            if (waits) {
                add(STEP_OR);
            }
        }

        private void readFact(int depth) {
            boolean not = reader.isAt("not");
            boolean bracket = reader.sign() == '[';
            if ((not || bracket) && depth >= MAX_DEPTH) {
                reader.fail(FAULT_DEPTH);
            } else if (not) {
                reader.takesWord("not");
                readFact(depth + 1);
                add(STEP_NOT);
            } else if (bracket) {
                reader.skip(1);
                readTest(depth + 1);
                if (!reader.takes(']')) {
                    reader.fail(FAULT_SIGN);
                }
            } else {
                readSum();
                int step = readComparison();
                readSum();
                add(step);
            }
        }

        /** The sign of a fact, which counts; where it fails, any. */
        private int readComparison() {
            int step = comparisonAt();
            if (step == NONE) {
                reader.fail(FAULT_SIGN);
            } else if (countsOneMore()) {
                reader.skip(step == STEP_AT_MOST || step == STEP_AT_LEAST ? 2 : 1);
            }
            return step;
        }

        private int comparisonAt() {
            switch (reader.sign()) {
                case '<':
                    return reader.isNext('=') ? STEP_AT_MOST : STEP_LESS;
                case '=':
                    return STEP_EQUAL;
                case '>':
                    return reader.isNext('=') ? STEP_AT_LEAST : STEP_MORE;
                default:
                    return NONE;
            }
        }

        /** A + or - waits until the values that * and / join behind it are read. */
        private void readSum() {
            int waits = NONE;
            readValue();
            for (int joined = 1; joined < TAPE_BYTES; joined++) {
                int step = operatorAt();
                if (step == NONE) {
                    break;
                }
                boolean joinsFirst = step == STEP_MULTIPLY || step == STEP_DIVIDE;
                if (!joinsFirst) {
                    addUnlessNone(waits);
                    waits = step;
                }
                reader.skip(1);
                readValue();
                addUnlessNone(joinsFirst ? step : NONE);
            }
            addUnlessNone(waits);
        }

        private int operatorAt() {
            switch (reader.sign()) {
                case '+':
                    return STEP_ADD;
                case '-':
                    return STEP_SUBTRACT;
                case '*':
                    return STEP_MULTIPLY;
                case '/':
                    return STEP_DIVIDE;
                default:
                    return NONE;
            }
        }

        private void readValue() {
            int digits = reader.digits();
            int word = digits == 0 ? wordAt() : NONE;
            if (digits == 0 && word == NONE) {
                reader.fail(FAULT_SIGN);
            } else if (digits > MAX_NUMBER_DIGITS) {
                reader.fail(FAULT_NUMBER);
            } else if (countsOneMore()) {
                add(word == NONE ? NUMBER_STEP + reader.valueOf(digits) : word);
                reader.skip(word == NONE ? digits : lengthOf(word));
            }
        }

        /** Which of the words stands at the place. */
        private int wordAt() {
            for (int word = 0; word < WORDS; word++) {
                if (reader.isAt(nameOf(word))) {
                    return word;
                }
            }
            return NONE;
        }

        private static int lengthOf(int word) {
            return nameOf(word).length();
        }

        private static String nameOf(int word) {
            switch (word) {
                case WORD_PLANK:
                    return "plank";
                case WORD_KIND:
                    return "kind";
                case WORD_ROT:
                    return "rot";
                case WORD_OWNER:
                    return "owner";
                case WORD_SHIP:
                    return "ship";
                case WORD_FROM:
                    return "from";
                case WORD_OWN:
                    return "own";
                case WORD_DAY:
                    return "day";
                case WORD_MOVES:
                    return "moves";
                default:
                    return "length";
            }
        }

        /** Counts a value or a fact at the place; it fails there if it is one too many. */
        private boolean countsOneMore() {
            if (values >= MAX_VALUES) {
                reader.fail(FAULT_VALUES);
                return false;
            }
            values++;
            return true;
        }

        private void add(int step) {
            if (size < steps.length) {
                steps[size] = step;
                size++;
            }
        }

        private void addUnlessNone(int step) {
            if (step != NONE) {
                add(step);
            }
        }
    }

    /** A rule, as the steps that a stack goes through for one plank. */
    private static final class Rule {
        final int[] steps;

        Rule(int[] steps) {
            this.steps = steps;
        }
    }

    /** Reckons what a rule says of a plank that could be taken for a ship. */
    private static final class Reckoner {
        final long[] words = new long[WORDS];
        private final long[] stack = new long[MAX_VALUES];
        private int top;
        private long sum;

        /** The sum of the clause that took the plank. */
        long sum() {
            return sum;
        }

        /** Whether a clause takes the plank that the words tell of; the first one's sum is kept. */
        boolean isTaken(int[] steps) {
            top = 0;
            for (int i = 0; i < steps.length; i++) {
                int step = steps[i];
                if (step >= NUMBER_STEP) {
                    push(step - NUMBER_STEP);
                } else if (step >= 0 && step < WORDS) {
                    push(words[step]);
                } else if (step == STEP_TAKE || step == STEP_TAKE_IF) {
                    if (step == STEP_TAKE || stack[1] != 0) {
                        sum = stack[0];
                        return true;
                    }
                    top = 0;
                } else {
                    apply(step);
                }
            }
            return false;
        }

        private void push(long value) {
            if (top < stack.length) {
                stack[top] = value;
                top++;
            }
        }

        private void apply(int step) {
            if (step == STEP_NOT && top >= 1) {
                stack[top - 1] = 1 - stack[top - 1];
            } else if (top >= 2) {
                top--;
                stack[top - 1] = joined(step, stack[top - 1], stack[top]);
            }
        }

        private static long joined(int step, long a, long b) {
            switch (step) {
                case STEP_ADD:
                    return a + b;
                case STEP_SUBTRACT:
                    return a - b;
                case STEP_MULTIPLY:
                    return a * b;
                case STEP_DIVIDE:
                    return b == 0 ? 0 : a / b;
                case STEP_LESS:
                    return a < b ? 1 : 0;
                case STEP_AT_MOST:
                    return a <= b ? 1 : 0;
                case STEP_EQUAL:
                    return a == b ? 1 : 0;
                case STEP_AT_LEAST:
                    return a >= b ? 1 : 0;
                case STEP_MORE:
                    return a > b ? 1 : 0;
                case STEP_AND:
                    return a & b;
                default:
                    return a | b;
            }
        }
    }

    /** What a yard's text told; nothing of it changes by days. */
    private static final class Yard {
        int kinds;
        int ships;
        int planks;
        int voyages;
        int hands;
        final int[] must = new int[MAX_SHIPS * MAX_KINDS];
        final int[] kindOf = new int[MAX_PLANKS];
        final int[] rotOf = new int[MAX_PLANKS];
        final int[] ownerOf = new int[MAX_PLANKS];
        final int[] shipOf = new int[MAX_VOYAGES];
        final int[] from = new int[MAX_VOYAGES];
        final int[] to = new int[MAX_VOYAGES];
        final int[] pay = new int[MAX_VOYAGES];

        void clear() {
            kinds = 0;
            ships = 0;
            planks = 0;
            voyages = 0;
            hands = 0;
        }

        void copy(Yard other) {
            kinds = other.kinds;
            ships = other.ships;
            planks = other.planks;
            voyages = other.voyages;
            hands = other.hands;
            System.arraycopy(other.must, 0, must, 0, must.length);
            System.arraycopy(other.kindOf, 0, kindOf, 0, kindOf.length);
            System.arraycopy(other.rotOf, 0, rotOf, 0, rotOf.length);
            System.arraycopy(other.ownerOf, 0, ownerOf, 0, ownerOf.length);
            System.arraycopy(other.shipOf, 0, shipOf, 0, shipOf.length);
            System.arraycopy(other.from, 0, from, 0, from.length);
            System.arraycopy(other.to, 0, to, 0, to.length);
            System.arraycopy(other.pay, 0, pay, 0, pay.length);
        }

        int mustHave(int ship, int kind) {
            return must[ship * MAX_KINDS + kind];
        }

        int lengthOf(int voyage) {
            return to[voyage] - from[voyage];
        }

        boolean begins(int ship, int day) {
            for (int voyage = 0; voyage < voyages; voyage++) {
                if (shipOf[voyage] == ship && from[voyage] == day) {
                    return true;
                }
            }
            return false;
        }
    }

    /** A yard as it is: all that an image keeps. */
    private static final class State {
        final Yard yard = new Yard();
        boolean told;
        int day;
        int movesOfDay;
        int moves;
        int earned;
        int x;
        final int[] stand = new int[MAX_SHIPS];
        final int[] earnedBy = new int[MAX_SHIPS];
        final int[] on = new int[MAX_SHIPS];
        final int[] rot = new int[MAX_PLANKS];
        final int[] in = new int[MAX_PLANKS];
        final boolean[] lost = new boolean[MAX_PLANKS];
        final int[] course = new int[MAX_VOYAGES];

        /** Makes it the first day of the yard that was read. */
        void begin(int drawn) {
            told = true;
            day = 0;
            movesOfDay = 0;
            moves = 0;
            earned = 0;
            x = drawn;
            for (int ship = 0; ship < MAX_SHIPS; ship++) {
                stand[ship] = ASHORE;
                earnedBy[ship] = 0;
                on[ship] = NONE;
            }
            for (int plank = 0; plank < MAX_PLANKS; plank++) {
                rot[plank] = yard.rotOf[plank];
                in[plank] = NONE;
                lost[plank] = false;
            }
            for (int voyage = 0; voyage < MAX_VOYAGES; voyage++) {
                course[voyage] = NOT_BEGUN;
            }
        }

        void copy(State other) {
            yard.copy(other.yard);
            told = other.told;
            day = other.day;
            movesOfDay = other.movesOfDay;
            moves = other.moves;
            earned = other.earned;
            x = other.x;
            System.arraycopy(other.stand, 0, stand, 0, stand.length);
            System.arraycopy(other.earnedBy, 0, earnedBy, 0, earnedBy.length);
            System.arraycopy(other.on, 0, on, 0, on.length);
            System.arraycopy(other.rot, 0, rot, 0, rot.length);
            System.arraycopy(other.in, 0, in, 0, in.length);
            System.arraycopy(other.lost, 0, lost, 0, lost.length);
            System.arraycopy(other.course, 0, course, 0, course.length);
        }

        boolean hasKind(int kind) {
            return kind >= 0 && kind < yard.kinds;
        }

        boolean hasShip(int ship) {
            return ship >= 0 && ship < yard.ships;
        }

        boolean hasPlank(int plank) {
            return plank >= 0 && plank < yard.planks;
        }

        boolean hasVoyage(int voyage) {
            return voyage >= 0 && voyage < yard.voyages;
        }

        int handsLeft() {
            return told ? yard.hands - movesOfDay : 0;
        }

        /** Whether a plank is sound, not lost and not at sea. */
        boolean isFree(int plank) {
            boolean atSea = hasShip(in[plank]) && stand[in[plank]] == AT_SEA;
            return rot[plank] > 0 && !lost[plank] && !atSea;
        }

        /** Sound planks in a ship (NONE: on the heap). */
        int soundIn(int ship) {
            int sound = 0;
            for (int plank = 0; plank < yard.planks; plank++) {
                if (in[plank] == ship && rot[plank] > 0) {
                    sound++;
                }
            }
            return sound;
        }

        int soundOwnedIn(int ship, int owner) {
            int sound = 0;
            for (int plank = 0; plank < yard.planks; plank++) {
                if (in[plank] == ship && rot[plank] > 0 && yard.ownerOf[plank] == owner) {
                    sound++;
                }
            }
            return sound;
        }

        int tooFew(int ship, int kind) {
            int few = yard.mustHave(ship, kind);
            for (int plank = 0; plank < yard.planks; plank++) {
                if (in[plank] == ship && rot[plank] > 0 && yard.kindOf[plank] == kind) {
                    few--;
                }
            }
            return Math.max(few, 0);
        }

        boolean isWhole(int ship) {
            for (int kind = 0; kind < yard.kinds; kind++) {
                if (tooFew(ship, kind) > 0) {
                    return false;
                }
            }
            return true;
        }

        void put(int plank, int ship) {
            in[plank] = ship;
            movesOfDay++;
            moves++;
        }

        int lostShips() {
            int ships = 0;
            for (int ship = 0; ship < yard.ships; ship++) {
                if (stand[ship] == LOST) {
                    ships |= 1 << ship;
                }
            }
            return ships;
        }

        /** Who loses most of the sound planks in a ship. */
        int heaviestLoser(int ship) {
            int loser = NONE;
            int most = 0;
            for (int owner = 0; owner < yard.ships; owner++) {
                int planks = soundOwnedIn(ship, owner);
                if (planks > most) {
                    most = planks;
                    loser = owner;
                }
            }
            return loser;
        }

        /** Which ship a hull is by a law. */
        int identity(int law, int ship) {
            if (law == 2) {
                return ship;
            }
            if (stand[ship] == LOST) {
                return NONE;
            }
            return law == 1 ? heaviestLoser(ship) : keelOwner(ship);
        }

        private int keelOwner(int ship) {
            for (int plank = 0; plank < yard.planks; plank++) {
                if (in[plank] == ship && rot[plank] > 0 && yard.kindOf[plank] == 0) {
                    return yard.ownerOf[plank];
                }
            }
            return NONE;
        }

        /** Draws for each ship at sea whether her first sound plank rots more. */
        void drawForShips(int percent) {
            for (int ship = 0; ship < yard.ships; ship++) {
                int plank = stand[ship] == AT_SEA ? firstSoundIn(ship) : NONE;
                if (plank != NONE) {
                    x = (int) ((x * 1103515245L + 12345L) % 2147483648L);
                    if (x / 65536 % PERCENT < percent && rot[plank] > 1) {
                        rot[plank]--;
                    }
                }
            }
        }

        private int firstSoundIn(int ship) {
            for (int plank = 0; plank < yard.planks; plank++) {
                if (in[plank] == ship && rot[plank] > 0) {
                    return plank;
                }
            }
            return NONE;
        }
    }

    /** Lets days go by in a state. */
    private static final class Calendar {
        private final Reckoner reckoner = new Reckoner();

        /** One day by a rule, or by none (null). */
        void pass(State state, Rule rule) {
            for (int ship = 0; ship < state.yard.ships; ship++) {
                if (state.stand[ship] == AT_SEA && endsOn(state, ship, state.day)) {
                    comeHome(state, ship);
                }
            }
            for (int voyage = 0; voyage < state.yard.voyages; voyage++) {
                int ship = state.yard.shipOf[voyage];
                if (state.yard.from[voyage] == state.day && state.stand[ship] == ASHORE) {
                    setOut(state, rule, voyage);
                }
            }
            for (int ship = 0; ship < state.yard.ships; ship++) {
                if (state.stand[ship] == AT_SEA) {
                    rotAway(state, ship);
                }
            }
            state.day++;
            state.movesOfDay = 0;
        }

        private static boolean endsOn(State state, int ship, int day) {
            int voyage = state.on[ship];
            return state.hasVoyage(voyage) && state.yard.to[voyage] == day;
        }

        private static void comeHome(State state, int ship) {
            int voyage = state.on[ship];
            int pay = state.yard.pay[voyage];
            int part = pay / (state.soundIn(ship) + 1);
            int left = pay;
            for (int owner = 0; owner < state.yard.ships; owner++) {
                int share = part * state.soundOwnedIn(ship, owner);
                state.earnedBy[owner] += share;
                left -= share;
            }
            state.earnedBy[ship] += left;
            state.earned += pay;
            state.course[voyage] = PAID;
            state.stand[ship] = ASHORE;
            state.on[ship] = NONE;
        }

        private void setOut(State state, Rule rule, int voyage) {
            int ship = state.yard.shipOf[voyage];
            if (rule != null) {
                for (int kind = 0; kind < state.yard.kinds; kind++) {
                    fill(state, rule, voyage, kind);
                }
            }
            if (state.isWhole(ship)) {
                state.stand[ship] = AT_SEA;
                state.on[ship] = voyage;
                state.course[voyage] = UNDER_WAY;
            }
        }

        private void fill(State state, Rule rule, int voyage, int kind) {
            int ship = state.yard.shipOf[voyage];
            int wanted = Math.min(state.tooFew(ship, kind), state.handsLeft());
            for (int i = 0; i < wanted; i++) {
                int plank = chosen(state, rule, voyage, kind);
                if (plank == NONE) {
                    return;
                }
                state.put(plank, ship);
            }
        }

        /** The plank that the rule takes for a voyage's ship, or NONE. */
        private int chosen(State state, Rule rule, int voyage, int kind) {
            int best = NONE;
            long least = 0;
            for (int plank = 0; plank < state.yard.planks; plank++) {
                if (state.yard.kindOf[plank] == kind && canBeTaken(state, plank, state.yard.shipOf[voyage])) {
                    tell(state, plank, voyage);
                    if (reckoner.isTaken(rule.steps) && (best == NONE || reckoner.sum() < least)) {
                        best = plank;
                        least = reckoner.sum();
                    }
                }
            }
            return best;
        }

        private static boolean canBeTaken(State state, int plank, int ship) {
            int in = state.in[plank];
            if (in == ship || !state.isFree(plank)) {
                return false;
            }
            return in == NONE || !state.yard.begins(in, state.day);
        }

        private void tell(State state, int plank, int voyage) {
            int in = state.in[plank];
            int ship = state.yard.shipOf[voyage];
            long[] words = reckoner.words;
            words[WORD_PLANK] = plank;
            words[WORD_KIND] = state.yard.kindOf[plank];
            words[WORD_ROT] = state.rot[plank];
            words[WORD_OWNER] = state.yard.ownerOf[plank];
            words[WORD_SHIP] = ship;
            words[WORD_FROM] = in == NONE ? FROM_HEAP : in;
            words[WORD_OWN] = state.yard.ownerOf[plank] == ship ? 1 : 0;
            words[WORD_DAY] = state.day;
            words[WORD_MOVES] = state.movesOfDay;
            words[WORD_LENGTH] = state.yard.lengthOf(voyage);
        }

        private static void rotAway(State state, int ship) {
            boolean rotten = false;
            for (int plank = 0; plank < state.yard.planks; plank++) {
                if (state.in[plank] == ship && state.rot[plank] > 0) {
                    state.rot[plank]--;
                    rotten |= state.rot[plank] == 0;
                }
            }
            if (rotten && !endsOn(state, ship, state.day + 1)) {
                lose(state, ship);
            }
        }

        private static void lose(State state, int ship) {
            int voyage = state.on[ship];
            if (state.hasVoyage(voyage)) {
                state.course[voyage] = GONE;
            }
            state.stand[ship] = LOST;
            state.on[ship] = NONE;
            for (int plank = 0; plank < state.yard.planks; plank++) {
                if (state.in[plank] == ship) {
                    state.lost[plank] = true;
                }
            }
        }
    }

    /** What could be: sets of voyages and of ships, and planks that would do. */
    private static final class Plans {
        private State state;
        private Yard yard;
        /** Of each kind the planks that are not lost, and those of them that are sound. */
        private final int[] kept = new int[MAX_KINDS];
        private final int[] sound = new int[MAX_KINDS];

        /** Takes the state that is asked about, as it is. */
        void look(State at) {
            state = at;
            yard = at.yard;
            Arrays.fill(kept, 0);
            Arrays.fill(sound, 0);
            for (int plank = 0; plank < yard.planks; plank++) {
                int kind = yard.kindOf[plank];
                if (!state.lost[plank]) {
                    kept[kind]++;
                    sound[kind] += state.rot[plank] > 0 ? 1 : 0;
                }
            }
        }

        private static boolean has(int set, int member) {
            return (set >> member & 1) != 0;
        }

        /** Whether a set is to be had rather than the best so far, which is less as bits. */
        private static boolean isBetter(int pay, int set, int bestPay, int best) {
            return pay > bestPay || pay == bestPay && Integer.bitCount(set) < Integer.bitCount(best);
        }

        /** The first day on which a set of voyages can't be: only where one begins more is needed. */
        int failingDay(int voyages) {
            int first = NONE;
            for (int voyage = 0; voyage < yard.voyages; voyage++) {
                int day = yard.from[voyage];
                if (has(voyages, voyage) && (first == NONE || day < first) && failure(voyages, day) != NONE) {
                    first = day;
                }
            }
            return first;
        }

        /** The least kind of which there are too few on a day, or ON_TWO, or NONE. */
        int failure(int voyages, int day) {
            int under = underWay(voyages, day);
            for (int kind = 0; kind < yard.kinds; kind++) {
                if (wanted(under, kind) > kept[kind]) {
                    return kind;
                }
            }
            return isOnTwo(under) ? ON_TWO : NONE;
        }

        /** Those of a set of voyages that are at sea on a day. */
        private int underWay(int voyages, int day) {
            int under = 0;
            for (int voyage = 0; voyage < yard.voyages; voyage++) {
                if (has(voyages, voyage) && yard.from[voyage] <= day && day < yard.to[voyage]) {
                    under |= 1 << voyage;
                }
            }
            return under;
        }

        private int wanted(int voyages, int kind) {
            int planks = 0;
            for (int voyage = 0; voyage < yard.voyages; voyage++) {
                if (has(voyages, voyage)) {
                    planks += yard.mustHave(yard.shipOf[voyage], kind);
                }
            }
            return planks;
        }

        private boolean isOnTwo(int voyages) {
            int ships = 0;
            for (int voyage = 0; voyage < yard.voyages; voyage++) {
                if (has(voyages, voyage)) {
                    if (has(ships, yard.shipOf[voyage])) {
                        return true;
                    }
                    ships |= 1 << yard.shipOf[voyage];
                }
            }
            return false;
        }

        int payOfVoyages(int voyages) {
            int pay = 0;
            for (int voyage = 0; voyage < yard.voyages; voyage++) {
                if (has(voyages, voyage)) {
                    pay += yard.pay[voyage];
                }
            }
            return pay;
        }

        int bestVoyages() {
            int best = 0;
            int bestPay = 0;
            for (int set = 1; set < 1 << yard.voyages; set++) {
                int pay = payOfVoyages(set);
                if (isBetter(pay, set, bestPay, best) && failingDay(set) == NONE) {
                    best = set;
                    bestPay = pay;
                }
            }
            return best;
        }

        /** The planks, as bits, by which a voyage's ship would come home; NOT_THERE: too few. */
        int enduringPlanks(int voyage) {
            int chosen = 0;
            for (int kind = 0; kind < yard.kinds; kind++) {
                int must = yard.mustHave(yard.shipOf[voyage], kind);
                for (int i = 0; i < must; i++) {
                    int plank = leastEnduring(kind, yard.lengthOf(voyage), chosen);
                    if (plank == NONE) {
                        return NOT_THERE;
                    }
                    chosen |= 1 << plank;
                }
            }
            return chosen;
        }

        /** The plank of a kind, not yet chosen, with the least rot that lasts so many days. */
        private int leastEnduring(int kind, int days, int chosen) {
            int best = NONE;
            for (int plank = 0; plank < yard.planks; plank++) {
                boolean lasts = yard.kindOf[plank] == kind && state.isFree(plank) && state.rot[plank] >= days;
                if (lasts && !has(chosen, plank) && (best == NONE || state.rot[plank] < state.rot[best])) {
                    best = plank;
                }
            }
            return best;
        }

        /** What the voyages from now on of a set of ships pay. */
        int payOfShips(int ships) {
            int pay = 0;
            for (int voyage = 0; voyage < yard.voyages; voyage++) {
                if (has(ships, yard.shipOf[voyage]) && yard.from[voyage] >= state.day) {
                    pay += yard.pay[voyage];
                }
            }
            return pay;
        }

        int bestShips() {
            int best = 0;
            int bestPay = 0;
            int lost = state.lostShips();
            for (int set = 1; set < 1 << yard.ships; set++) {
                int pay = payOfShips(set);
                if ((set & lost) == 0 && isBetter(pay, set, bestPay, best) && canBeWhole(set)) {
                    best = set;
                    bestPay = pay;
                }
            }
            return best;
        }

        /** Whether all ships of a set could be whole at once. */
        private boolean canBeWhole(int ships) {
            for (int kind = 0; kind < yard.kinds; kind++) {
                int left = sound[kind];
                for (int ship = 0; ship < yard.ships; ship++) {
                    left -= has(ships, ship) ? yard.mustHave(ship, kind) : 0;
                }
                if (left < 0) {
                    return false;
                }
            }
            return true;
        }
    }
}
