/** Promise 5, rule: the text of a RULE, each of its limits, each FAULT at its place; what a RULE says of PLANKS. */
public final class Promise05RuleTest {
    private static final int SIGN = 0;
    private static final int NUMBER = 1;
    private static final int DEPTH = 2;
    private static final int VALUES = 3;
    private static final int CLAUSE = 4;

    /** 2 to the 63rd, which goes round to the least number of 64 bits. */
    private static final String LEAST = "32768*32768*32768*32768*8";

    public static void main(String[] args) {
        Checks.run(Promise05RuleTest.class);
    }

    // ---- what it answers and does

    private static void answersItsNumber(Checks c) {
        NineTimbers x = new NineTimbers();
        for (int i = 0; i < 6; i++) {
            c.due("rule", Checks.rule(x, "take " + i), i);
            c.due("rules", x.count(4), i + 1);
        }
    }

    private static void theTapeIsEmptyThen(Checks c) {
        NineTimbers x = new NineTimbers();
        Checks.rule(x, "take rot");
        c.due("behind a rule", x.count(11), 0);
        c.due("a second reading finds nothing", x.rule(), Checks.fault(0, SIGN));
        Checks.rule(x, "take");
        c.due("behind a fault", x.count(11), 0);
    }

    private static void aFaultTakesNoNumber(Checks c) {
        NineTimbers x = new NineTimbers();
        for (int i = 0; i < 6; i++) {
            c.due("a fault", Checks.rule(x, "take"), Checks.fault(4, SIGN));
            c.due("another", Checks.rule(x, "take 1;take rot if rot"), Checks.fault(22, SIGN));
            c.due("rules", x.count(4), i);
            c.due("rule", Checks.rule(x, "take rot"), i);
        }
    }

    private static void thereAre6(Checks c) {
        NineTimbers x = Checks.withRules(Checks.FLEET, "take 0", "take 1", "take 2", "take 3", "take 4", "take 5");
        c.due("with an empty tape", x.rule(), -1);
        Checks.put(x, "take rot");
        int[] before = Seen.of(x);
        c.due("a seventh", x.rule(), -1);
        c.unchanged("the tape stays, too", x, before);
        x.end(3);
        c.due("a seventh with a fault", x.rule(), -1);
        c.due("bytes", x.count(11), 3);
        c.due("rules", x.count(4), 6);
        c.due("by the last", x.days(5, 1), 1);
        c.due("by one more", x.days(6, 1), -1);
    }

    private static void aFaultLeavesTheRulesThereAre(Checks c) {
        NineTimbers x = Checks.withRules("kinds 1;ship 1;plank 0 5 0;plank 0 9 0;voyage 0 0 1 0", "take 0-rot");
        int[] before = Seen.of(x);
        c.due("a fault", Checks.rule(x, "take rot if"), Checks.fault(11, SIGN));
        c.unchanged("fault", x, before);
        x.days(0, 1);
        c.due("rule 0 as it was", x.plank(1, 3), 0);
    }

    private static void eachRuleIsItsOwn(Checks c) {
        String[] rules = new String[6];
        for (int i = 0; i < 6; i++) {
            rules[i] = "take 1 if plank = " + i;
        }
        for (int i = 0; i < 6; i++) {
            NineTimbers x = Checks.withRules("kinds 1;ship 1" + Checks.times(";plank 0 5 0", 6) + ";voyage 0 0 1 0", rules);
            x.days(i, 1);
            for (int plank = 0; plank < 6; plank++) {
                c.due("by rule " + i + " plank " + plank, x.plank(plank, 3), plank == i ? 0 : -1);
            }
        }
    }

    private static void aRuleMayComeAheadOfAYard(Checks c) {
        NineTimbers x = new NineTimbers();
        Checks.rule(x, "take rot");
        Checks.yard(x, "kinds 1;ship 1;plank 0 5 0;voyage 0 0 1 0");
        c.due("day", x.days(0, 1), 1);
        c.due("moved", x.plank(0, 3), 0);
    }

    private static void aYardIsNoRuleAndARuleNoYard(Checks c) {
        c.ruleFault("@kinds 1", SIGN);
        c.yardFault("@take 1", SIGN);
    }

    // ---- clauses

    private static void takeASumAndATestIfOneLikes(Checks c) {
        c.ruleTaken("take 1");
        c.ruleTaken("take 1 if 1<2");
        c.ruleFault("@", SIGN);
        c.ruleFault("  @", SIGN);
        c.ruleFault("@1", SIGN);
        c.ruleFault("@rot", SIGN);
        c.ruleFault("@if 1<2", SIGN);
        c.ruleFault("take@", SIGN);
        c.ruleFault("take @", SIGN);
        c.ruleFault("take @;", SIGN);
        c.ruleFault("take @if 1<2", SIGN);
        c.ruleFault("take @take 1", SIGN);
        c.ruleFault("take 1 @take 1", SIGN);
        c.ruleFault("take 1 if@", SIGN);
        c.ruleFault("take 1 if @;take 1", SIGN);
        c.ruleFault("take 1 @1<2", SIGN);
        c.ruleFault("take 1 if 1<2 @if 1<2", SIGN);
        c.ruleFault("take 1@=2", SIGN);
        c.ruleFault("take @not 1<2", SIGN);
        c.ruleFault("take @[1]", SIGN);
        c.ruleFault("take 1 @and 1<2", SIGN);
    }

    private static void clausesHaveOneSignBetween(Checks c) {
        c.ruleTaken("take 1;take 2");
        c.ruleTaken("take 1 if 1<2;take 2");
        c.ruleFault("take 1;@", SIGN);
        c.ruleFault("take 1; @", SIGN);
        c.ruleFault("take 1;@;take 2", SIGN);
        c.ruleFault("@;take 1", SIGN);
        c.ruleFault("take 1 if 1<2;@if 1<2", SIGN);
        c.ruleFault("take 1 if 1<2 @take 1", SIGN);
        c.ruleFault("take 1@,take 2", SIGN);
    }

    private static void twelveClausesAtMost(Checks c) {
        String twelve = "take 1" + Checks.times(";take 1", 11);
        c.ruleTaken(twelve);
        c.ruleTaken("take 1 if 1<2" + Checks.times(";take 1 if 1<2", 11));
        c.ruleFault(twelve + ";@take 1", CLAUSE);
        c.ruleFault(twelve + ";@take", CLAUSE);
        c.ruleFault(twelve + ";  @take x", CLAUSE);
        c.ruleFault(twelve + ";@", SIGN);
        c.ruleFault(twelve + ";@takes", SIGN);
        c.ruleFault(twelve + ";@;take 1", SIGN);
        c.ruleFault(twelve + " @1;take 1", SIGN);
    }

    private static void theTwelfthClauseIsReckoned(Checks c) {
        String eleven = Checks.times("take 1 if plank>9;", 11);
        c.due("the twelfth", taken(eleven + "take 1 if plank=3"), 3);
    }

    // ---- tests

    private static void aTestIsPartsOfFacts(Checks c) {
        c.ruleTaken("take 1 if 1<2 or 1<2 or 1<2");
        c.ruleTaken("take 1 if 1<2 and 1<2 and 1<2");
        c.ruleFault("take 1 if 1<2 or@", SIGN);
        c.ruleFault("take 1 if 1<2 and@", SIGN);
        c.ruleFault("take 1 if 1<2 or @or 1<2", SIGN);
        c.ruleFault("take 1 if 1<2 or @and 1<2", SIGN);
        c.ruleFault("take 1 if @or 1<2", SIGN);
        c.ruleFault("take 1 if @and 1<2", SIGN);
        c.ruleFault("take 1 if 1<2 @not 1<2", SIGN);
        c.ruleFault("take 1 if 1<2 @xor 1<2", SIGN);
        c.ruleFault("take 1 if 1<2 @ors 1<2", SIGN);
        c.ruleFault("take 1 if 1<2 @1<2", SIGN);
        c.ruleFault("take 1 if 1 @and 2<3", SIGN);
        c.ruleFault("take 1 if 1@", SIGN);
        c.ruleFault("take 1 if 1@;take 1", SIGN);
    }

    private static void notStandsAheadOfAFact(Checks c) {
        c.ruleTaken("take 1 if not 1<2");
        c.ruleTaken("take 1 if not not 1<2");
        c.ruleTaken("take 1 if not[1<2]");
        c.ruleFault("take 1 if not@", SIGN);
        c.ruleFault("take 1 if not @;", SIGN);
        c.ruleFault("take 1 if not 1@", SIGN);
        c.ruleFault("take 1 if @notnot 1<2", SIGN);
        c.ruleFault("take 1 if @nota 1<2", SIGN);
        c.ruleFault("take 1 if @no 1<2", SIGN);
        c.ruleFault("take 1 if 1<@not 2", SIGN);
        c.ruleFault("take 1 if not @and 1<2", SIGN);
    }

    private static void bracketsAreSigns(Checks c) {
        c.ruleTaken("take 1 if [1<2]");
        c.ruleTaken("take 1 if [ [ 1<2 ] or [1<2]and 1<2 ]");
        c.ruleFault("take 1 if [@", SIGN);
        c.ruleFault("take 1 if [1<2@", SIGN);
        c.ruleFault("take 1 if [1<2@;", SIGN);
        c.ruleFault("take 1 if [1<2 @)", SIGN);
        c.ruleFault("take 1 if [1@]<2", SIGN);
        c.ruleFault("take 1 if [@]", SIGN);
        c.ruleFault("take 1 if [1<2]@]", SIGN);
        c.ruleFault("take 1 if [1<2] @[1<2]", SIGN);
        c.ruleFault("take 1 if [1<2]@=1", SIGN);
        c.ruleFault("take 1 if 1<@[2]", SIGN);
        c.ruleFault("take 1 if @(1<2)", SIGN);
        c.ruleFault("take rot if day = 1@]", SIGN);
    }

    private static void signsOfFacts(Checks c) {
        for (String sign : new String[] {"<", "<=", "=", ">=", ">"}) {
            c.ruleTaken("take 1 if 1" + sign + "2");
            c.ruleTaken("take 1 if 1 " + sign + " 2");
            c.ruleFault("take 1 if 1" + sign + "@", SIGN);
            c.ruleFault("take 1 if 1" + sign + "@;", SIGN);
            c.ruleFault("take 1 if 1" + sign + "2@" + sign + "3", SIGN);
            c.ruleFault("take 1 if @" + sign + "2", SIGN);
        }
        c.ruleFault("take 1 if 1< @=2", SIGN);
        c.ruleFault("take 1 if 1> @=2", SIGN);
        c.ruleFault("take 1 if 1=@<2", SIGN);
        c.ruleFault("take 1 if 1=@>2", SIGN);
        c.ruleFault("take 1 if 1=@=2", SIGN);
        c.ruleFault("take 1 if 1<@>2", SIGN);
        c.ruleFault("take 1 if 1<@<2", SIGN);
        c.ruleFault("take 1 if 1<=@=2", SIGN);
        c.ruleFault("take 1 if 1@!=2", SIGN);
    }

    // ---- sums

    private static void aSumIsTermsOfValues(Checks c) {
        for (String sign : new String[] {"+", "-", "*", "/"}) {
            c.ruleTaken("take 1" + sign + "rot");
            c.ruleTaken("take 1 if 1 " + sign + " rot < day" + sign + "2");
            c.ruleFault("take 1" + sign + "@", SIGN);
            c.ruleFault("take 1" + sign + "@;take 1", SIGN);
            c.ruleFault("take 1" + sign + "@+1", SIGN);
            c.ruleFault("take 1" + sign + "@*1", SIGN);
            c.ruleFault("take @" + sign + "1", SIGN);
            c.ruleFault("take 1" + sign + " @if 1<2", SIGN);
            c.ruleFault("take 1 if 1" + sign + "@<2", SIGN);
        }
        c.ruleFault("take 1 @2", SIGN);
        c.ruleFault("take rot @rot", SIGN);
        c.ruleFault("take 1@%2", SIGN);
    }

    private static void numbersHave1To5Digits(Checks c) {
        c.ruleTaken("take 0");
        c.ruleTaken("take 99999");
        c.ruleTaken("take 00000");
        c.ruleFault("take @100000", NUMBER);
        c.ruleFault("take @000000", NUMBER);
        c.ruleFault("take 1+@000001", NUMBER);
        c.ruleFault("take 1 if 1<@1234567890123", NUMBER);
        c.ruleFault("take 1 if @123456<1", NUMBER);
        c.ruleFault("take 1;take @123456;x", NUMBER);
        c.ruleFault("take @18446744073709551616", NUMBER);
        c.due("five digits", holds("99999-1=99998"), true);
        c.due("noughts ahead", holds("00012=12"), true);
    }

    private static void numbersGoAsFarAsDigits(Checks c) {
        c.ruleFault("take 123 @456", SIGN);
        c.ruleFault("take 12345@x", SIGN);
        c.ruleFault("take 1@.5", SIGN);
        c.ruleTaken("take 1if 1<2");
        c.ruleTaken("take 1if1<2or1<2and 1<2");
        c.ruleTaken("take1");
    }

    private static void wordsGoAsFarAsSmallLetters(Checks c) {
        for (String word : Model.WORDS) {
            c.ruleTaken("take " + word);
            c.ruleTaken("take 1 if " + word + "<" + word + "*" + word);
            c.ruleFault("take @" + word + "a", SIGN);
            c.ruleFault("take @" + word + "z", SIGN);
            c.ruleFault("take @" + word.substring(0, word.length() - 1) + "x", SIGN);
            c.ruleFault("take " + word + "@X", SIGN);
            c.ruleFault("take " + word + "@{", SIGN);
            c.ruleFault("take " + word + "@`", SIGN);
            c.ruleFault("take " + word + "@1", SIGN);
            c.ruleFault("take @" + word.substring(0, 1).toUpperCase() + word.substring(1), SIGN);
        }
        c.ruleFault("take @pla", SIGN);
        c.ruleFault("take @x", SIGN);
        c.ruleFault("@takes 1", SIGN);
        c.ruleFault("@takerot", SIGN);
        c.ruleFault("take 1 @iff 1<2", SIGN);
        c.ruleFault("take 1 @ifrot<2", SIGN);
        c.ruleFault("take @voyage", SIGN);
        c.ruleFault("take @hands", SIGN);
        c.ruleFault("take @kinds", SIGN);
    }

    private static void blanksStandBetweenAsOneLikes(Checks c) {
        c.ruleTaken("   take   1   +   rot   if   not   [   1   <=   2   ]   or   1   =   1   ;   take   2   ");
        c.ruleTaken("take0-plank*3+rot if rot>2and[day<3]or not[kind=1];take1");
        c.ruleFault("take@\t1", SIGN);
        c.ruleFault("@ta ke 1", SIGN);
        c.ruleFault("take @ro t", SIGN);
    }

    private static void aByteThatCanNotStandThere(Checks c) {
        for (int sign = 0; sign < 256; sign++) {
            String s = String.valueOf((char) sign);
            boolean digit = sign >= '0' && sign <= '9';
            if (sign == ' ' || sign == '@') {
                continue;
            }
            c.ruleFault("@" + s, SIGN);
            if (!digit) {
                c.ruleFault("take @" + s, SIGN);
                c.ruleFault("take 1 if 1=@" + s, SIGN);
            }
            if (!digit && ";+-*/".indexOf(sign) < 0) {
                c.ruleFault("take 1@" + s, SIGN);
            }
            if (!digit && "<=>+-*/".indexOf(sign) < 0) {
                c.ruleFault("take 1 if 1@" + s + "2", SIGN);
            }
            if (!digit && sign != '[') {
                c.ruleFault("take 1 if @" + s, SIGN);
            }
        }
    }

    private static void theEndIsBehindTheLastByte(Checks c) {
        c.ruleFault(Checks.times(" ", 400) + "@", SIGN);
        c.ruleFault("take" + Checks.times(" ", 396) + "@", SIGN);
        c.ruleFault("take 1 if 1" + Checks.times(" ", 388) + "<@", SIGN);
        c.ruleFault("take 1 if 1" + Checks.times(" ", 388) + ">@", SIGN);
        c.ruleFault("take 1 if 1" + Checks.times(" ", 387) + "<=@", SIGN);
        c.ruleFault("take 1" + Checks.times(" ", 392) + "if@", SIGN);
        c.ruleFault("take 1" + Checks.times(" ", 392) + "+@t", SIGN);
        c.ruleFault("take 1" + Checks.times(" ", 393) + "@i", SIGN);
        c.ruleFault("take 1 if 1<2" + Checks.times(" ", 386) + "@]", SIGN);
        c.ruleTaken("take" + Checks.times(" ", 395) + "1");
        c.ruleTaken("take 1" + Checks.times(" ", 394));
        c.ruleTaken("take 1 if 1<" + Checks.times(" ", 385) + "rot");
    }

    // ---- depth

    private static void tenDeepAtMost(Checks c) {
        String ten = Checks.times("not ", 10);
        c.ruleTaken("take 1 if " + ten + "1<2");
        c.ruleTaken("take 1 if " + Checks.times("[", 10) + "1<2" + Checks.times("]", 10));
        c.ruleTaken("take 1 if " + Checks.times("not[", 5) + "1<2" + Checks.times("]", 5));
        c.ruleTaken("take 1 if " + Checks.times("[not ", 5) + "1<2" + Checks.times("]", 5));
        c.ruleFault("take 1 if " + ten + "@not 1<2", DEPTH);
        c.ruleFault("take 1 if " + ten + "@[1<2]", DEPTH);
        c.ruleFault("take 1 if " + Checks.times("[", 10) + "@[1<2" + Checks.times("]", 11), DEPTH);
        c.ruleFault("take 1 if " + Checks.times("[", 10) + " @not 1<2" + Checks.times("]", 10), DEPTH);
        c.ruleFault("take 1 if " + Checks.times("not[", 5) + "@not 1<2" + Checks.times("]", 5), DEPTH);
        c.ruleFault("take 1 if " + Checks.times("[not ", 5) + "@[1<2]" + Checks.times("]", 5), DEPTH);
        c.ruleFault("take 1 if " + Checks.times("[", 10) + "1<2 and @[1<2]" + Checks.times("]", 10), DEPTH);
        c.ruleFault("take 1 if " + Checks.times("[", 10) + "1<2 or @not 1<2" + Checks.times("]", 10), DEPTH);
        c.ruleFault("take 1 if " + ten + "@not", DEPTH);
        c.ruleFault("take 1 if " + Checks.times("[", 10) + "@[", DEPTH);
    }

    private static void whatIsClosedIsNoLongerAround(Checks c) {
        String ten = Checks.times("not ", 10);
        String brackets = Checks.times("[", 10) + "1<2" + Checks.times("]", 10);
        c.ruleTaken("take 1 if " + ten + "1<2 and " + ten + "1<2 or " + brackets);
        c.ruleTaken("take 1 if " + brackets + " and " + brackets + ";take 1 if " + brackets);
        c.ruleTaken("take 1 if [" + Checks.times("not ", 9) + "1<2 and " + Checks.times("not ", 9) + "1<2]");
        c.ruleFault("take 1 if [[1<2] and " + Checks.times("not ", 9) + "@not 1<2]", DEPTH);
    }

    private static void deepFactsAreReckoned(Checks c) {
        c.due("ten nots", holds(Checks.times("not ", 10) + "1=1"), true);
        c.due("nine nots", holds(Checks.times("not ", 9) + "1=1"), false);
        c.due("ten brackets", holds(Checks.times("[", 10) + "1=2" + Checks.times("]", 10)), false);
        c.due("by turns", holds(Checks.times("not[", 5) + "1=2" + Checks.times("]", 5)), true);
    }

    // ---- values

    private static void sixtyValuesAndFactsAtMost(Checks c) {
        String sixty = "take 1" + Checks.times("+1", 59);
        c.ruleTaken(sixty);
        c.ruleTaken("take rot" + Checks.times("*rot", 59));
        c.ruleFault(sixty + "+@1", VALUES);
        c.ruleFault(sixty + "+ @rot", VALUES);
        c.ruleFault(sixty + "*@1+x", VALUES);
        c.ruleFault(sixty + " if @1<2", VALUES);
        c.ruleFault(sixty + ";take @1", VALUES);
        c.ruleFault(sixty + ";take @1 if x", VALUES);
    }

    private static void aFactCountsAtItsSign(Checks c) {
        c.ruleTaken("take 1" + Checks.times("+1", 56) + " if 1<2");
        c.ruleFault("take 1" + Checks.times("+1", 57) + " if 1<=@2", VALUES);
        for (String sign : new String[] {"<", "<=", "=", ">=", ">"}) {
            c.ruleFault("take 1" + Checks.times("+1", 58) + " if 1 @" + sign + " 2", VALUES);
        }
        c.ruleFault("take 1" + Checks.times("+1", 58) + " if 1@<", VALUES);
    }

    private static void notAndBracketsDoNotCount(Checks c) {
        String facts = Checks.times("not[1<2]and ", 18) + "not[1<2]";
        c.ruleTaken("take 1+1+1 if " + facts);
        c.ruleFault("take 1+1+1 if " + facts + " and @1<2", VALUES);
        c.ruleFault("take 1+1+1+1 if " + facts.substring(0, facts.length() - 2) + "@2]", VALUES);
    }

    private static void theyCountAlongAllClauses(Checks c) {
        String clause = "take 1 if 1<2;";
        c.ruleTaken(Checks.times(clause, 11) + "take 1" + Checks.times("+1", 15));
        c.ruleFault(Checks.times(clause, 11) + "take 1" + Checks.times("+1", 15) + "+@1", VALUES);
        c.ruleTaken(Checks.times(clause, 11) + "take 1" + Checks.times("+1", 12) + " if 1<2");
        c.ruleFault(Checks.times(clause, 11) + "take 1" + Checks.times("+1", 13) + " if 1<@2", VALUES);
        c.ruleFault(Checks.times(clause, 11) + "take 1" + Checks.times("+1", 14) + " if 1@<2", VALUES);
    }

    private static void theyCountAnewInTheNextRule(Checks c) {
        NineTimbers x = new NineTimbers();
        String sixty = "take 1" + Checks.times("+1", 59);
        c.due("60", Checks.rule(x, sixty), 0);
        c.due("61", Checks.rule(x, sixty + "+1"), Checks.fault(sixty.length() + 1, VALUES));
        c.due("60", Checks.rule(x, sixty), 1);
    }

    private static void sixtyValuesAreReckoned(Checks c) {
        c.due("the sum of 57", holds("1" + Checks.times("+1", 56) + "=57"), true);
        c.due("a test of 19 facts", holds(Checks.times("1=1 and ", 18) + "1=1"), true);
        c.due("the last is none", holds(Checks.times("1=1 and ", 18) + "1=2"), false);
    }

    // ---- of several faults

    private static void theFirstFaultAlongTheText(Checks c) {
        String sixty = "take 1" + Checks.times("+1", 59);
        String twelve = "take 1" + Checks.times(";take 1", 11);
        c.ruleFault("take @123456+x", NUMBER);
        c.ruleFault("take @x+123456", SIGN);
        c.ruleFault(sixty + "+@1+123456", VALUES);
        c.ruleFault(twelve + ";@take 123456", CLAUSE);
        c.ruleFault("take @123456;" + twelve, NUMBER);
        c.ruleFault("take 1 if " + Checks.times("[", 10) + "@[x", DEPTH);
        c.ruleFault("take 1 if [[[[[@x" + Checks.times("[", 10), SIGN);
        c.ruleFault("take 1" + Checks.times("+1", 59) + " if " + Checks.times("not ", 10) + "@not 1<2", DEPTH);
        c.ruleFault("take 1 if 1<2@]123456", SIGN);
        c.ruleFault("@tak 123456", SIGN);
    }

    private static void ofOnePlaceTheLeast(Checks c) {
        String sixty = "take 1" + Checks.times("+1", 59);
        c.ruleFault(sixty + "+@x", SIGN);
        c.ruleFault(sixty + "+@", SIGN);
        c.ruleFault(sixty + "+@123456", NUMBER);
        c.ruleFault("take 1 @123456", SIGN);
        c.ruleFault("take 1" + Checks.times("+1", 58) + " if 1@!2", SIGN);
        c.ruleFault("take 1" + Checks.times(";take 1", 11) + ";@tak 1", SIGN);
        c.ruleFault("take 1 if " + Checks.times("not ", 10) + "@nota", SIGN);
        c.ruleFault("take 1 if " + Checks.times("[", 10) + "1<@[2", SIGN);
    }

    // ---- what a rule says

    /** Whether a test holds for the one plank of a yard. */
    private static boolean holds(String test) {
        NineTimbers x = Checks.withRules("kinds 1;ship 1;plank 0 9 0;voyage 0 0 2 0", "take 0 if " + test);
        x.days(0, 1);
        return x.plank(0, 3) == 0;
    }

    /** Which of six planks (rot 10 to 15, owners 0 and 1 by turns; the last in ship 1) a rule takes first, or NONE. */
    private static int taken(String rule) {
        NineTimbers x = Checks.withRules("kinds 2;ship 0 1;ship 1 0;plank 1 10 0;plank 1 11 1;plank 1 12 0;plank 1 13 1;"
            + "plank 1 14 0;plank 1 15 1;voyage 0 2 7 5;hands 3", rule);
        x.days(-1, 2);
        Checks.move(x, 5, 1);
        x.days(0, 1);
        for (int plank = 0; plank < 6; plank++) {
            if (x.plank(plank, 3) == 0) {
                return plank;
            }
        }
        return NineTimbers.NONE;
    }

    private static void leastSumThenLeastNumber(Checks c) {
        c.due("least rot", taken("take rot"), 0);
        c.due("most rot", taken("take 0-rot"), 5);
        c.due("equal sums", taken("take 7"), 0);
        c.due("equal least sums", taken("take 14/rot"), 5);
        c.due("two have 12/rot of 0", taken("take 13/rot"), 4);
        c.due("no blanks", taken("take0-plank*3+rot"), 5);
    }

    private static void sumsFromTheLeftTermsFirst(Checks c) {
        c.due("10-3-2", holds("10-3-2=5"), true);
        c.due("100/5/2", holds("100/5/2=10"), true);
        c.due("2+3*4", holds("2+3*4=14"), true);
        c.due("2*3+4", holds("2*3+4=10"), true);
        c.due("1-2*3", holds("1-2*3=0-5"), true);
        c.due("100/7*7", holds("100/7*7=98"), true);
        c.due("7*100/7", holds("7*100/7=100"), true);
        c.due("20-2*3-8/2*2", holds("20-2*3-8/2*2=6"), true);
        c.due("1+2-3+4", holds("1+2-3+4=4"), true);
        c.due("on the right side", holds("14=2+3*4"), true);
    }

    private static void divisionIsTowards0(Checks c) {
        c.due("7/2", holds("7/2=3"), true);
        c.due("1/2", holds("1/2=0"), true);
        c.due("0-7/2", holds("0-7/2=0-3"), true);
        c.due("the least by 3", holds(LEAST + "/3*3=" + LEAST + "+2"), true);
        c.due("below 0 by 99999", holds(LEAST + "/99999/99999/99999=0-9223"), true);
        c.due("the least by 1", holds(LEAST + "/1=" + LEAST), true);
    }

    private static void divisionBy0Is0(Checks c) {
        c.due("5/0", holds("5/0=0"), true);
        c.due("0/0", holds("0/0=0"), true);
        c.due("the least by 0", holds(LEAST + "/0=0"), true);
        c.due("it goes on", holds("5/0*7+1=1"), true);
        c.due("0 again", holds("5/0/0+3=3"), true);
        c.due("by a word", holds("5/moves=0"), true);
        c.due("as a sum", taken("take 5/own"), 1);
    }

    private static void allGoesRoundIn64Bits(Checks c) {
        c.due("below 0", holds(LEAST + "<0"), true);
        c.due("one less is above", holds(LEAST + "-1>0"), true);
        c.due("twice", holds(LEAST + "*2=0"), true);
        c.due("and itself", holds(LEAST + "+" + LEAST + "=0"), true);
        c.due("one more", holds(LEAST + "<" + LEAST + "+1"), true);
        c.due("0 less it", holds("0-" + LEAST + "=" + LEAST), true);
        c.due("the most and 1", holds(LEAST + "-1+1=" + LEAST), true);
        c.due("not in 32 bits", holds("65536*65536>0"), true);
        c.due("nor in 32 bits below 0", holds("65536*32768>0"), true);
        c.due("99999 to the fourth", holds("99999*99999*99999*99999>0"), 99999L * 99999L * 99999L * 99999L > 0);
    }

    private static void greatestAndLeastSumsAreTaken(Checks c) {
        c.due("all the greatest", taken("take " + LEAST + "-1"), 0);
        c.due("one less than the greatest", taken("take " + LEAST + "-1 if plank<3;take " + LEAST + "-2"), 3);
        c.due("all the least", taken("take " + LEAST), 0);
        c.due("the least of 64 bits", taken("take 0-99999 if plank<3;take " + LEAST), 3);
        c.due("sums that differ in high bits alone", taken("take 65536*65536 if plank<2;take 0"), 2);
        c.due("a high sum below 0", taken("take 0 if plank<2;take 0-65536*65536"), 2);
    }

    private static void signsOfFactsHold(Checks c) {
        String[] signs = {"<", "<=", "=", ">=", ">"};
        boolean[][] due = {{true, true, false, false, false}, {false, true, true, true, false},
            {false, false, false, true, true}};
        for (int i = 0; i < signs.length; i++) {
            c.due("4 " + signs[i] + " 5", holds("4" + signs[i] + "5"), due[0][i]);
            c.due("5 " + signs[i] + " 5", holds("5" + signs[i] + "5"), due[1][i]);
            c.due("5 " + signs[i] + " 4", holds("5" + signs[i] + "4"), due[2][i]);
        }
    }

    private static void andBindsMoreThanOrNotMoreThanAnd(Checks c) {
        String[] fact = {"1=2", "1=1"};
        for (int bits = 0; bits < 8; bits++) {
            boolean p = (bits & 4) != 0;
            boolean q = (bits & 2) != 0;
            boolean r = (bits & 1) != 0;
            String a = fact[p ? 1 : 0];
            String b = fact[q ? 1 : 0];
            String d = fact[r ? 1 : 0];
            c.due(bits + " or and", holds(a + " or " + b + " and " + d), p || q && r);
            c.due(bits + " and or", holds(a + " and " + b + " or " + d), p && q || r);
            c.due(bits + " and and", holds(a + " and " + b + " and " + d), p && q && r);
            c.due(bits + " or or", holds(a + " or " + b + " or " + d), p || q || r);
            c.due(bits + " [or] and", holds("[" + a + " or " + b + "] and " + d), (p || q) && r);
            c.due(bits + " and [or]", holds(a + " and [" + b + " or " + d + "]"), p && (q || r));
            c.due(bits + " not or", holds("not " + a + " or " + b + " and " + d), !p || q && r);
            c.due(bits + " not and", holds("not " + a + " and " + b + " or " + d), !p && q || r);
            c.due(bits + " not [or]", holds("not [" + a + " or " + b + "] or " + d), !(p || q) || r);
            c.due(bits + " and not", holds(a + " and not " + b + " or not " + d), p && !q || !r);
            c.due(bits + " four", holds(a + " and " + b + " or " + d + " and " + a), p && q || r && p);
            c.due(bits + " four, or", holds(a + " or " + b + " and " + d + " or " + a), p || q && r);
        }
    }

    private static void wordsOfAPlankForAShip(Checks c) {
        for (int plank = 0; plank < 6; plank++) {
            String other = " and plank=" + plank;
            c.due("plank", taken("take 1 if plank=" + plank), plank);
            c.due("kind", taken("take 1 if kind=1" + other), plank);
            c.due("rot", taken("take 1 if rot=" + (10 + plank)), plank);
            c.due("owner", taken("take 1 if owner=" + plank % 2 + other), plank);
            c.due("ship", taken("take 1 if ship=0" + other), plank);
            c.due("from", taken("take 1 if from=" + (plank == 5 ? 1 : 99) + other), plank);
            c.due("own", taken("take 1 if own=" + (plank % 2 == 0 ? 1 : 0) + other), plank);
            c.due("day", taken("take 1 if day=2" + other), plank);
            c.due("moves", taken("take 1 if moves=1" + other), plank);
            c.due("length", taken("take 1 if length=5" + other), plank);
        }
    }

    private static void rotIsWhatIsLeft(Checks c) {
        NineTimbers x = Checks.withRules("kinds 1;ship 1;ship 1;plank 0 9 0;voyage 0 0 2 0;voyage 1 3 4 0", "take 1 if rot=7");
        Checks.move(x, 0, 0);
        x.days(0, 4);
        c.due("taken with 7 left", x.voyage(1, 4), 1);
    }

    private static void shipIsWhoIsToHaveIt(Checks c) {
        NineTimbers x = Checks.withRules("kinds 1;ship 1;ship 1;plank 0 9 0;plank 0 9 0;voyage 0 0 2 0;voyage 1 0 2 0",
            "take 1 if ship=1 and plank=1");
        x.days(0, 1);
        c.due("not for ship 0", x.ship(0, 0), 0);
        c.due("for ship 1", x.plank(1, 3), 1);
    }

    private static void movesAreOfThisDayByHandAndByRule(Checks c) {
        NineTimbers x = Checks.withRules("kinds 1;ship 2;ship 0;plank 0 9 0;plank 0 9 0;plank 0 9 0;voyage 0 1 2 0",
            "take 1 if moves=1 and plank=0 or moves=2 and plank=1");
        Checks.move(x, 2, 1);
        x.days(0, 1);
        Checks.move(x, 2, -1);
        x.days(0, 1);
        c.due("the first was the second move of the day", x.plank(0, 3), 0);
        c.due("the second was the third", x.plank(1, 3), 0);
    }

    private static void lengthIsOfTheVoyageItIsFor(Checks c) {
        NineTimbers x = Checks.withRules("kinds 1;ship 1;plank 0 9 0;voyage 0 0 2 5;voyage 0 0 3 6", "take 1 if length=3");
        x.days(0, 1);
        c.due("for the second voyage", x.ship(0, 4), 1);
        NineTimbers y = Checks.withRules("kinds 1;ship 1;plank 0 99 0;voyage 0 0 99 5", "take 1 if length=99");
        y.days(0, 1);
        c.due("the longest", y.ship(0, 4), 0);
    }

    private static void theFirstClauseThatHoldsGivesTheSum(Checks c) {
        c.due("first that holds", taken("take 9 if rot=10;take 8 if rot<12;take 20 if rot>12;take 10"), 1);
        c.due("not a later one", taken("take 9 if rot=10;take 0;take 0-99 if rot=10"), 1);
        c.due("a clause without a test hides the rest", taken("take 5;take 0 if plank=3"), 0);
        c.due("the second", taken("take 1 if 1=2;take 0-rot"), 5);
    }

    private static void thoseWithoutAClauseAreNotTaken(Checks c) {
        c.due("none holds", taken("take 0 if rot>99"), -1);
        c.due("one holds", taken("take 0 if rot>99;take 5 if plank=5"), 5);
        c.due("a greater sum, but the only one", taken("take 99999*99999 if plank=4"), 4);
    }

    private static void twoSumsWithoutASignAreNoFact(Checks c) {
        c.ruleFault("take 1 if 1 @2", SIGN);
        c.ruleFault("take 1 if 1 @2<3", SIGN);
        c.ruleFault("take 1 if rot @rot=1", SIGN);
        c.ruleFault("take 1 if 1@rot=1", SIGN);
        c.ruleFault("take 1 if [1 @2]", SIGN);
        c.ruleFault("take 1 if not 1 @2", SIGN);
    }

    private static void factsOfAllSignsAreJoined(Checks c) {
        String[] yes = {"4<5", "4<=5", "5<=5", "5=5", "5>=5", "5>=4", "5>4"};
        String[] no = {"5<5", "6<5", "6<=5", "6=5", "4>=5", "5>5", "4>5"};
        for (int i = 0; i < yes.length; i++) {
            c.due("not " + yes[i], holds("not " + yes[i]), false);
            c.due("not " + no[i], holds("not " + no[i]), true);
            c.due("not not " + yes[i], holds("not not " + yes[i]), true);
            for (int k = 0; k < yes.length; k++) {
                c.due("both", holds(yes[i] + " and " + yes[k]), true);
                c.due("one of both", holds(yes[i] + " and " + no[k]), false);
                c.due("either", holds(no[i] + " or " + yes[k]), true);
                c.due("neither", holds(no[i] + " or " + no[k]), false);
                c.due("both, not", holds("not " + no[i] + " and " + yes[k]), true);
            }
        }
    }
}
