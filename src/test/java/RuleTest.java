/** Promise 5: rules, their faults, and what they say of planks. */
public final class RuleTest {
    public static void main(String[] args) {
        Checks c = new Checks();
        numbers(c);
        wrongSigns(c);
        wrongNumbers(c);
        tooDeep(c);
        tooManyValues(c);
        tooManyClauses(c);
        sums(c);
        tests(c);
        words(c);
        clauses(c);
        c.close();
    }

    private static void numbers(Checks c) {
        NineTimbers x = new NineTimbers();
        for (int i = 0; i < 6; i++) {
            c.due("a fault takes no number", Checks.rule(x, "take"), Checks.fault(4, 0));
            c.due("tape behind a fault", x.count(11), 0);
            c.due("rule", Checks.rule(x, "take rot"), i);
            c.due("rules", x.count(4), i + 1);
            c.due("tape", x.count(11), 0);
        }
        Checks.put(x, "take rot");
        c.due("a seventh", x.rule(), -1);
        c.due("tape stays", x.count(11), 8);
        x.end(3);
        c.due("a seventh, faulty", x.rule(), -1);
        c.due("tape stays", x.count(11), 3);
        c.due("rules", x.count(4), 6);
    }

    private static void wrongSigns(Checks c) {
        c.ruleFault("", 0, 0);
        c.ruleFault("take", 4, 0);
        c.ruleFault("take ", 5, 0);
        c.ruleFault("takes 1", 0, 0);
        c.ruleFault("kinds 1", 0, 0);
        c.ruleFault("take x", 5, 0);
        c.ruleFault("take 1;", 7, 0);
        c.ruleFault("take 1 if", 9, 0);
        c.ruleFault("take 1 iff 1<2", 7, 0);
        c.ruleFault("take 1 2", 7, 0);
        c.ruleFault("take rots", 5, 0);
        c.ruleFault("take -1", 5, 0);
        c.ruleFault("take 1+", 7, 0);
        c.ruleFault("take 1+*2", 7, 0);
        c.ruleFault("take [1]", 5, 0);
        c.ruleFault("take 1 if 1", 11, 0);
        c.ruleFault("take 1 if 1 and 2<3", 12, 0);
        c.ruleFault("take 1 if 1<", 12, 0);
        c.ruleFault("take 1 if 1< =2", 13, 0);
        c.ruleFault("take 1 if 1=<2", 12, 0);
        c.ruleFault("take 1 if 1==2", 12, 0);
        c.ruleFault("take 1 if 1<2<3", 13, 0);
        c.ruleFault("take 1 if 1<2 or", 16, 0);
        c.ruleFault("take 1 if 1<2 and", 17, 0);
        c.ruleFault("take 1 if not", 13, 0);
        c.ruleFault("take 1 if notnot 1<2", 10, 0);
        c.ruleFault("take 1 if [1<2", 14, 0);
        c.ruleFault("take 1 if [1<2;", 14, 0);
        c.ruleFault("take 1 if [1]<2", 12, 0);
        c.ruleFault("take 1 if []", 11, 0);
        c.ruleFault("take rot if day = 1]", 19, 0);
        c.ruleFault("take 1 if 1<2 if 1<2", 14, 0);
        c.ruleFault("take 1 if 1<2;if", 14, 0);
        c.ruleFault("take 1 if 1!2", 11, 0);
        c.ruleFault("takez 1", 0, 0);
        c.ruleFault("take 1 ifz", 7, 0);
        c.ruleFault("take 1 ifa", 7, 0);
        c.ruleFault("take 1 if 1" + Checks.times(" ", 388) + "<", 400, 0);
        c.ruleFault("take 1 if 1" + Checks.times(" ", 388) + ">", 400, 0);
        c.ruleFault("take 1" + Checks.times(" ", 392) + "if", 400, 0);
        c.ruleFault("take 1" + Checks.times(" ", 392) + "+t", 399, 0);
    }

    private static void wrongNumbers(Checks c) {
        c.ruleFault("take 123456", 5, 1);
        c.ruleFault("take 1+000000", 7, 1);
        c.ruleFault("take 1 if 1<1234567890123", 12, 1);
        NineTimbers x = new NineTimbers();
        c.due("five digits", Checks.rule(x, "take 99999"), 0);
    }

    private static void tooDeep(Checks c) {
        NineTimbers x = new NineTimbers();
        String ten = Checks.times("not ", 10);
        c.due("ten nots", Checks.rule(x, "take 1 if " + ten + "1<2"), 0);
        c.ruleFault("take 1 if " + ten + "not 1<2", 50, 2);
        c.ruleFault("take 1 if " + ten + "[1<2]", 50, 2);
        c.due("ten brackets", Checks.rule(x, "take 1 if " + Checks.times("[", 10) + "1<2" + Checks.times("]", 10)), 1);
        c.ruleFault("take 1 if " + Checks.times("[", 11) + "1<2" + Checks.times("]", 11), 20, 2);
        c.due("both", Checks.rule(x, "take 1 if " + Checks.times("not[", 5) + "1<2" + Checks.times("]", 5)), 2);
        c.ruleFault("take 1 if " + Checks.times("not[", 5) + "not 1<2" + Checks.times("]", 5), 30, 2);
        c.due("beside", Checks.rule(x, "take 1 if " + ten + "1<2 and " + ten + "1<2 or [" + Checks.times("[", 9) + "1<2"
            + Checks.times("]", 9) + "]"), 3);
    }

    private static void tooManyValues(Checks c) {
        NineTimbers x = new NineTimbers();
        String sixty = "take 1" + Checks.times("+1", 59);
        c.due("60 values", Checks.rule(x, sixty), 0);
        c.ruleFault(sixty + "+1", sixty.length() + 1, 3);
        c.ruleFault(sixty + "+rot", sixty.length() + 1, 3);
        c.ruleFault(sixty + "+bad", sixty.length() + 1, 0);
        c.ruleFault(sixty + "+123456", sixty.length() + 1, 1);
        c.ruleFault(sixty + ";take 1", sixty.length() + 6, 3);
        c.ruleFault(sixty + " if 1<2", sixty.length() + 4, 3);
        String less = "take 1" + Checks.times("+1", 58);
        c.ruleFault(less + " if 1<=2", less.length() + 5, 3);
        String two = "take 1" + Checks.times("+1", 57);
        c.ruleFault(two + " if 1<=2", two.length() + 7, 3);
        String three = "take 1" + Checks.times("+1", 56);
        c.due("57 and a fact", Checks.rule(x, three + " if 1<=2"), 1);
        c.ruleFault(three + " if 1<=2;take 1", three.length() + 14, 3);
    }

    private static void tooManyClauses(Checks c) {
        NineTimbers x = new NineTimbers();
        String twelve = "take 1" + Checks.times(";take 1", 11);
        c.due("12 clauses", Checks.rule(x, twelve), 0);
        c.ruleFault(twelve + ";take 1", twelve.length() + 1, 4);
        c.ruleFault(twelve + "; take", twelve.length() + 2, 4);
        c.ruleFault(twelve + ";", twelve.length() + 1, 0);
        c.ruleFault(twelve + ";takes", twelve.length() + 1, 0);
    }

    /** Which of six planks (rot 10 to 15, owners 0 and 1 by turns) a rule takes first, or NONE. */
    private static int taken(String rule) {
        NineTimbers x = Checks.withYard("kinds 2;ship 0 1;ship 1 0;plank 1 10 0;plank 1 11 1;plank 1 12 0;plank 1 13 1;"
            + "plank 1 14 0;plank 1 15 1;voyage 0 2 7 5;hands 3");
        if (Checks.rule(x, rule) != 0) {
            throw new IllegalStateException("no rule: " + rule);
        }
        x.days(-1, 2);
        x.move(5, 1);
        x.days(0, 1);
        for (int plank = 0; plank < 6; plank++) {
            if (x.plank(plank, 3) == 0) {
                return plank;
            }
        }
        return NineTimbers.NONE;
    }

    private static void sums(Checks c) {
        c.due("least rot", taken("take rot"), 0);
        c.due("most rot", taken("take 0-rot"), 5);
        c.due("equal sums", taken("take 7"), 0);
        c.due("* before +", taken("take 0+rot*0-plank"), 5);
        c.due("from the left", taken("take 100-rot-0"), 5);
        c.due("from the left *", taken("take 100/rot*rot"), 5);
        c.due("by 0", taken("take 5/own"), 1);
        c.due("towards 0", taken("take 0-rot/12"), 2);
        c.due("towards 0 below", taken("take 0-1-rot/14"), 4);
        String big = "99999*99999*99999*99999";
        c.due("goes round", taken("take " + big + " if " + big + "<0"), wraps() ? 0 : -1);
        c.due("difference", taken("take rot-rot*2"), 5);
        c.due("no blanks", taken("take0-plank*3+rot"), 5);
    }

    private static boolean wraps() {
        return 99999L * 99999L * 99999L * 99999L < 0;
    }

    private static void tests(Checks c) {
        c.due("<", taken("take rot if rot<10"), -1);
        c.due("<", taken("take 0-rot if rot<12"), 1);
        c.due("<=", taken("take 0-rot if rot<=12"), 2);
        c.due("=", taken("take rot if rot=13"), 3);
        c.due(">=", taken("take rot if rot>=13"), 3);
        c.due(">", taken("take rot if rot>13"), 4);
        c.due("and", taken("take rot if rot>11 and own=0"), 3);
        c.due("or", taken("take rot if rot=15 or rot=14"), 4);
        c.due("and before or", taken("take rot if 1=1 or 1=2 and 1=2"), 0);
        c.due("and before or, other way", taken("take rot if 1=2 and 1=2 or 1=1"), 0);
        c.due("brackets", taken("take rot if [1=1 or 1=2] and 1=2"), -1);
        c.due("not", taken("take rot if not rot<13"), 3);
        c.due("not binds to its fact", taken("take rot if not 1=1 or 1=1"), 0);
        c.due("not of brackets", taken("take rot if not [1=1 or 1=1]"), -1);
        c.due("not not", taken("take rot if not not rot=12"), 2);
        c.due("three", taken("take rot if rot=14 or rot=13 and 1=2 or rot=15"), 4);
        c.due("three ands", taken("take rot if rot>10 and rot>11 and rot>12"), 3);
        c.due("sums in it", taken("take rot if rot*2=26-0 and plank+1=4"), 3);
    }

    private static void words(Checks c) {
        c.due("plank", taken("take 1 if plank=3"), 3);
        c.due("kind", taken("take 1 if kind=1 and plank=2"), 2);
        c.due("owner", taken("take 1 if owner=1"), 1);
        c.due("ship", taken("take 1 if ship=0"), 0);
        c.due("from a ship", taken("take 1 if from=1"), 5);
        c.due("from the heap", taken("take 0-plank if from=99"), 4);
        c.due("own", taken("take 0-plank if own=1"), 4);
        c.due("not own", taken("take 1 if own=0"), 1);
        c.due("day", taken("take 1 if day=2"), 0);
        c.due("moves", taken("take 1 if moves=1 and plank=4"), 4);
        c.due("no moves", taken("take 1 if moves=0"), -1);
        c.due("length", taken("take 1 if length=5 and plank=1"), 1);
    }

    private static void clauses(Checks c) {
        c.due("first that holds", taken("take 9 if rot=10;take 8 if rot<12;take 20 if rot>12;take 10"), 1);
        c.due("not a later one", taken("take 9 if rot=10;take 0;take 0-99 if rot=10"), 1);
        c.due("without one not taken", taken("take 0 if rot>99;take 5 if plank=5"), 5);
    }
}
