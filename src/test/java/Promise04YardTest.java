/** Promise 4, yard: the text of a YARD, each of its limits, each FAULT at its place, and what stays. */
public final class Promise04YardTest {
    private static final int SIGN = 0;
    private static final int NUMBER = 1;
    private static final int CLAUSE = 4;
    private static final String SHIP = "kinds 1;ship 1;";

    public static void main(String[] args) {
        Checks.run(Promise04YardTest.class);
    }

    // ---- what it answers and does

    private static void answersHowManyShips(Checks c) {
        for (int ships = 0; ships <= 6; ships++) {
            c.yardTaken("kinds 1" + Checks.times(";ship 1", ships), ships);
        }
    }

    private static void theTapeIsEmptyThen(Checks c) {
        NineTimbers x = new NineTimbers();
        Checks.yard(x, Checks.FLEET);
        c.due("behind a yard", x.count(11), 0);
        c.due("a second reading finds nothing", x.yard(), Checks.fault(0, SIGN));
        Checks.yard(x, "kinds");
        c.due("behind a fault", x.count(11), 0);
    }

    private static void itIsInPlaceOfTheOneThereWas(Checks c) {
        NineTimbers x = Checks.withRules(Checks.FLEET, "take 0-rot");
        x.seed(77);
        x.days(0, 8);
        Checks.move(x, 2, -1);
        c.due("earned", x.count(7) > 0, true);
        c.due("moves", x.count(9) > 0, true);
        c.due("another", Checks.yard(x, "kinds 1;ship 2;ship 1;ship 0;plank 0 4 2;voyage 2 0 1 5"), 3);
        int[] counts = {1, 3, 1, 1, 1, 0, 30, 0, 1, 0, 77, 0};
        for (int what = 0; what < counts.length; what++) {
            c.due("count(" + what + ")", x.count(what), counts[what]);
        }
        int[][] ships = {{0, 0, 0, 0, -1, 2, -1}, {0, 0, 0, 0, -1, 1, -1}, {0, 0, 1, 0, -1, 0, -1}};
        for (int ship = 0; ship < 3; ship++) {
            for (int what = 0; what < 7; what++) {
                c.due("ship(" + ship + "," + what + ")", x.ship(ship, what), ships[ship][what]);
            }
        }
        c.due("no second plank", x.plank(1, 0), -2);
        c.due("no second voyage", x.voyage(1, 0), -1);
    }

    private static void theSameYardAgainBeginsAgain(Checks c) {
        NineTimbers x = Checks.withRules(Checks.FLEET, "take 0-rot");
        int[] first = Seen.of(x);
        Checks.move(x, 0, 1);
        x.days(0, 9);
        c.due("again", Checks.yard(x, Checks.FLEET), 2);
        c.unchanged("as it was told", x, first);
    }

    private static void lostShipsAndPlanksAreThereAgain(Checks c) {
        String text = "kinds 1;ship 1;plank 0 1 0;voyage 0 0 3 5";
        NineTimbers x = Checks.withYard(text);
        int[] first = Seen.of(x);
        Checks.move(x, 0, 0);
        x.days(-1, 1);
        c.due("lost", x.ship(0, 0), 2);
        Checks.yard(x, text);
        c.unchanged("as it was told", x, first);
    }

    private static void aFaultLeavesAll(Checks c) {
        NineTimbers x = Checks.withRules(Checks.FLEET, "take 0-rot");
        x.seed(77);
        Checks.move(x, 0, 0, 1, 0, 2, 0);
        x.days(-1, 2);
        Checks.move(x, 3, 1);
        int[] before = Seen.of(x);
        String[] marked = {"@", "kinds@", "kinds 3;ship 1 1 1;ship@", "kinds 1;ship 1;plank 0 9 0;voyage 0 0 1 @1000",
            "kinds 1;ship 1;hands 3;@hands 4"};
        int[] why = {SIGN, SIGN, SIGN, NUMBER, CLAUSE};
        for (int i = 0; i < marked.length; i++) {
            c.due("yard", Checks.yard(x, marked[i].replace("@", "")), Checks.fault(marked[i].indexOf('@'), why[i]));
            c.unchanged("'" + marked[i] + "'", x, before);
        }
        c.due("days go on", x.days(0, 2), 4);
        c.due("and she comes home", x.voyage(0, 4), 2);
    }

    private static void rulesAndImagesStay(Checks c) {
        NineTimbers x = Checks.withRules(Checks.FLEET, "take rot", "take 0-rot");
        x.days(-1, 4);
        x.image(1);
        Checks.yard(x, "kinds 1;ship 1;plank 0 5 0;voyage 0 0 1 5");
        c.due("rules", x.count(4), 2);
        c.due("by a rule", x.days(1, 2), 2);
        c.due("moves", x.count(9), 1);
        c.due("the image", x.back(1), 4);
        c.due("ships", x.count(1), 2);
    }

    private static void atFirstEachPlankLiesOnTheHeapAndItIsDay0(Checks c) {
        NineTimbers x = Checks.withYard("kinds 1;ship 1" + Checks.times(";plank 0 9 0", 24));
        for (int plank = 0; plank < 24; plank++) {
            c.due("plank " + plank, x.plank(plank, 3), -1);
            c.due("not lost", x.plank(plank, 4), 0);
        }
        c.due("heap", x.count(8), 24);
        c.due("day", x.count(5), 0);
    }

    // ---- numbers

    /** A number that must be from least to most, between these parts of a text that has so many ships. */
    private static void number(Checks c, String before, String after, int least, int most, int ships) {
        c.yardTaken(before + least + after, ships);
        c.yardTaken(before + most + after, ships);
        c.yardTaken(before + String.format("%05d", most) + after, ships);
        c.yardFault(before + "@" + (most + 1) + after, NUMBER);
        if (least > 0) {
            c.yardFault(before + "@" + (least - 1) + after, NUMBER);
        }
        c.yardFault(before + "@99999" + after, NUMBER);
        c.yardFault(before + "@100000" + after, NUMBER);
        c.yardFault(before + "@" + String.format("%06d", most) + after, NUMBER);
        c.yardFault(before + "@4294967297" + after, NUMBER);
        c.yardFault(before + "@18446744073709551617" + after, NUMBER);
        c.yardFault(before + "@-1" + after, SIGN);
        c.yardFault(before + "@+1" + after, SIGN);
        c.yardFault(before + "@x" + after, SIGN);
        c.yardFault(before + "@;" + after, SIGN);
        c.yardFault(before + "@", SIGN);
    }

    private static void kindsAre1To4(Checks c) {
        number(c, "kinds ", "", 1, 4, 0);
        number(c, "kinds ", ";hands 1", 1, 4, 0);
    }

    private static void shipMustHave0To5OfEachKind(Checks c) {
        for (int kinds = 1; kinds <= 4; kinds++) {
            for (int kind = 0; kind < kinds; kind++) {
                String before = "kinds " + kinds + ";ship " + Checks.times("0 ", kind);
                number(c, before, Checks.times(" 5", kinds - 1 - kind), 0, 5, 1);
            }
        }
    }

    private static void shipHasANumberOfEachKindAndNoMore(Checks c) {
        c.yardFault("kinds 1;ship@", SIGN);
        c.yardFault("kinds 1;ship @;", SIGN);
        c.yardFault("kinds 1;ship 1 @1", SIGN);
        c.yardFault("kinds 2;ship 1@", SIGN);
        c.yardFault("kinds 2;ship 1@;ship 1 1", SIGN);
        c.yardFault("kinds 2;ship 1 1 @1", SIGN);
        c.yardFault("kinds 4;ship 1 1 1@", SIGN);
        c.yardFault("kinds 4;ship 1 1 1 1 @1", SIGN);
    }

    private static void shipNumbersAreInTheOrderOfKinds(Checks c) {
        NineTimbers x = Checks.withYard("kinds 4;ship 1 2 3 4;ship 5 0 4 3");
        int[][] must = {{1, 2, 3, 4}, {5, 0, 4, 3}};
        for (int kind = 0; kind < 4; kind++) {
            c.due("ship 0", x.ship(0, 5 + kind), must[0][kind]);
            c.due("ship 1", x.ship(1, 5 + kind), must[1][kind]);
        }
    }

    private static void plankKindIsOneOfTheYards(Checks c) {
        for (int kinds = 1; kinds <= 4; kinds++) {
            String before = "kinds " + kinds + ";ship" + Checks.times(" 0", kinds) + ";plank ";
            number(c, before, " 1 0", 0, kinds - 1, 1);
        }
    }

    private static void plankRotIs1To99(Checks c) {
        number(c, SHIP + "plank 0 ", " 0", 1, 99, 1);
    }

    private static void plankOwnerWasTold(Checks c) {
        for (int ships = 1; ships <= 6; ships++) {
            number(c, "kinds 1" + Checks.times(";ship 0", ships) + ";plank 0 1 ", "", 0, ships - 1, ships);
        }
        c.yardFault("kinds 1;plank 0 1 @0", NUMBER);
        c.yardFault("kinds 1;plank 0 1 @0;ship 1", NUMBER);
        c.yardFault("kinds 1;ship 1;plank 0 1 @1;ship 1", NUMBER);
    }

    private static void plankHasThreeNumbers(Checks c) {
        c.yardFault(SHIP + "plank@", SIGN);
        c.yardFault(SHIP + "plank 0@", SIGN);
        c.yardFault(SHIP + "plank 0 1@;plank 0 1 0", SIGN);
        c.yardFault(SHIP + "plank 0 1 0 @0", SIGN);
    }

    private static void voyageShipWasTold(Checks c) {
        for (int ships = 1; ships <= 6; ships++) {
            number(c, "kinds 1" + Checks.times(";ship 0", ships) + ";voyage ", " 0 1 0", 0, ships - 1, ships);
        }
        c.yardFault("kinds 1;voyage @0 0 1 0", NUMBER);
        c.yardFault("kinds 1;voyage @0 0 1 0;ship 1", NUMBER);
        c.yardFault("kinds 1;ship 1;voyage @1 0 1 0;ship 1", NUMBER);
    }

    private static void voyageBeginsOnADay0To98(Checks c) {
        number(c, SHIP + "voyage 0 ", " 99 0", 0, 98, 1);
    }

    private static void voyageEndsOnALaterDay99AtMost(Checks c) {
        for (int from : new int[] {0, 1, 9, 10, 50, 97, 98}) {
            number(c, SHIP + "voyage 0 " + from + " ", " 0", from + 1, 99, 1);
        }
        c.yardFault(SHIP + "voyage 0 98 @0 0", NUMBER);
        c.yardFault(SHIP + "voyage 0 98 @98 0", NUMBER);
        c.yardFault(SHIP + "voyage 0 98 @97 0", NUMBER);
    }

    private static void voyagePayIs0To999(Checks c) {
        number(c, SHIP + "voyage 0 0 1 ", "", 0, 999, 1);
    }

    private static void voyageHasFourNumbers(Checks c) {
        c.yardFault(SHIP + "voyage@", SIGN);
        c.yardFault(SHIP + "voyage 0@", SIGN);
        c.yardFault(SHIP + "voyage 0 1@", SIGN);
        c.yardFault(SHIP + "voyage 0 1 2@", SIGN);
        c.yardFault(SHIP + "voyage 0 1 2@;voyage 0 1 2 3", SIGN);
        c.yardFault(SHIP + "voyage 0 1 2 3 @4", SIGN);
    }

    private static void handsAre1To30(Checks c) {
        number(c, "kinds 1;hands ", "", 1, 30, 0);
        number(c, "kinds 1;hands ", ";ship 1", 1, 30, 1);
        c.yardFault("kinds 1;hands@", SIGN);
        c.yardFault("kinds 1;hands 1 @1", SIGN);
    }

    private static void handsAre30Without(Checks c) {
        c.due("without", Checks.withYard("kinds 1").count(6), 30);
        c.due("least", Checks.withYard("kinds 1;hands 1").count(6), 1);
        c.due("most", Checks.withYard("kinds 1;hands 30").count(6), 30);
        NineTimbers x = Checks.withYard("kinds 1;hands 7");
        Checks.yard(x, "kinds 1");
        c.due("not those of the yard before", x.count(6), 30);
    }

    private static void fiveDigitsAreTakenWithNoughtsAhead(Checks c) {
        NineTimbers x = Checks.withYard("kinds 00002;ship 00003 00004;plank 00001 00099 00000;"
            + "voyage 00000 00098 00099 00999;hands 00012");
        c.due("kinds", x.count(0), 2);
        c.due("must", x.ship(0, 5) * 10 + x.ship(0, 6), 34);
        c.due("kind", x.plank(0, 0), 1);
        c.due("rot", x.plank(0, 1), 99);
        c.due("from", x.voyage(0, 1), 98);
        c.due("to", x.voyage(0, 2), 99);
        c.due("pay", x.voyage(0, 3), 999);
        c.due("hands", x.count(6), 12);
        c.yardFault("kinds @000001", NUMBER);
        c.yardFault("kinds @000000", NUMBER);
        c.yardFault("kinds 1;ship @000000", NUMBER);
    }

    // ---- clauses

    private static void kindsIsTheFirstClause(Checks c) {
        c.yardFault("@ship 1", CLAUSE);
        c.yardFault("@ship 1;kinds 1", CLAUSE);
        c.yardFault("@plank 0 1 0", CLAUSE);
        c.yardFault("@voyage 0 0 1 0", CLAUSE);
        c.yardFault("  @hands 1;kinds 1", CLAUSE);
        c.yardFault("@hands", CLAUSE);
        c.yardFault("@plank x", CLAUSE);
    }

    private static void kindsIsToldOnce(Checks c) {
        c.yardFault("kinds 1;@kinds 1", CLAUSE);
        c.yardFault("kinds 1;ship 1; @kinds", CLAUSE);
        c.yardFault("kinds 1;ship 1;hands 1;@kinds 9", CLAUSE);
    }

    private static void handsAreToldOnceAtMost(Checks c) {
        c.yardTaken("kinds 1;hands 1;ship 1", 1);
        c.yardTaken("kinds 1;ship 1;hands 1", 1);
        c.yardFault("kinds 1;hands 1;@hands 1", CLAUSE);
        c.yardFault("kinds 1;hands 30;ship 1;  @hands", CLAUSE);
    }

    private static void sixShips(Checks c) {
        String six = "kinds 4" + Checks.times(";ship 0 5 0 5", 6);
        NineTimbers x = Checks.withYard(six);
        c.due("ships", x.count(1), 6);
        c.due("the last", x.ship(5, 8), 5);
        c.yardFault(six + ";@ship 0 5 0 5", CLAUSE);
        c.yardFault(six + "; @ship", CLAUSE);
        c.yardTaken(six + ";plank 3 1 5;voyage 5 0 1 0;hands 1", 6);
    }

    private static void twentyFourPlanks(Checks c) {
        String all = "kinds 1;ship 1" + Checks.times(";plank 0 98 0", 23) + ";plank 0 99 0";
        NineTimbers x = Checks.withYard(all);
        c.due("planks", x.count(2), 24);
        c.due("the last", x.plank(23, 1), 99);
        c.due("the one ahead", x.plank(22, 1), 98);
        c.due("none behind", x.plank(24, 1), -2);
        c.yardFault(all + ";@plank 0 99 0", CLAUSE);
        c.yardFault(all + "; @plank", CLAUSE);
        c.yardTaken(all + ";ship 1;voyage 1 0 1 0;hands 1", 2);
    }

    private static void eightVoyages(Checks c) {
        String all = "kinds 1;ship 1" + Checks.times(";voyage 0 98 99 998", 7) + ";voyage 0 98 99 999";
        NineTimbers x = Checks.withYard(all);
        c.due("voyages", x.count(3), 8);
        c.due("the last", x.voyage(7, 3), 999);
        c.due("the one ahead", x.voyage(6, 3), 998);
        c.due("none behind", x.voyage(8, 3), -1);
        c.yardFault(all + ";@voyage 0 98 99 999", CLAUSE);
        c.yardFault(all + "; @voyage", CLAUSE);
        c.yardTaken(all + ";ship 1;plank 0 1 1;hands 1", 2);
    }

    /** 40 can't be told within 400 bytes: 38 are the most. */
    private static void manyClauses(Checks c) {
        String most = "kinds1" + Checks.times(";ship0", 6) + Checks.times(";plank0 1 0", 24) + Checks.times(";voyage0 0 1 0", 6)
            + ";hands1";
        NineTimbers x = new NineTimbers();
        c.due("38 clauses", Checks.yard(x, most), 6);
        c.due("planks", x.count(2), 24);
        c.due("voyages", x.count(3), 6);
        c.due("hands", x.count(6), 1);
    }

    private static void shipsPlanksVoyagesAreInTheOrderTold(Checks c) {
        NineTimbers x = Checks.withYard("kinds 2;ship 1 0;voyage 0 1 2 3;plank 1 7 0;hands 4;ship 2 0;plank 0 8 1;"
            + "voyage 1 4 5 6;ship 3 0;voyage 2 7 8 9;plank 1 9 2");
        for (int i = 0; i < 3; i++) {
            c.due("ship", x.ship(i, 5), 1 + i);
            c.due("rot", x.plank(i, 1), 7 + i);
            c.due("owner", x.plank(i, 2), i);
            c.due("kind", x.plank(i, 0), 1 - i % 2);
            c.due("voyage's ship", x.voyage(i, 0), i);
            c.due("from", x.voyage(i, 1), 1 + 3 * i);
            c.due("to", x.voyage(i, 2), 2 + 3 * i);
            c.due("pay", x.voyage(i, 3), 3 + 3 * i);
        }
    }

    // ---- signs, blanks and the end

    private static void clausesHaveOneSignBetween(Checks c) {
        c.yardTaken("kinds 1", 0);
        c.yardFault("kinds 1;@", SIGN);
        c.yardFault("kinds 1; @", SIGN);
        c.yardFault("kinds 1;@;ship 1", SIGN);
        c.yardFault("@;kinds 1", SIGN);
        c.yardFault("@;", SIGN);
        c.yardFault("kinds 1 @ship 1", SIGN);
        c.yardFault("kinds 1@,ship 1", SIGN);
        c.yardFault("kinds 1 @1", SIGN);
    }

    private static void blanksStandBetweenAsOneLikes(Checks c) {
        c.yardTaken("kinds1;ship1;plank0 1 0;voyage0 0 1 0;hands1", 1);
        c.yardTaken("   kinds   1   ;   ship   1   ;   plank   0   1   0   ;   hands   3   ", 1);
        c.yardTaken(" kinds 1", 0);
        c.yardTaken("kinds 1 ", 0);
        c.yardTaken("kinds" + Checks.times(" ", 394) + "4", 0);
    }

    private static void blanksDoNotStandWithinAWordOrNumber(Checks c) {
        c.yardFault("@kin ds 1", SIGN);
        c.yardFault("kinds 1;@sh ip 1", SIGN);
        c.yardFault("kinds 1;ship 0 @1", SIGN);
        c.yardFault("kinds 1;hands 1 @2", SIGN);
    }

    private static void wordsAreSmallLettersAsFarAsTheseGoOn(Checks c) {
        c.yardFault("@kind 1", SIGN);
        c.yardFault("@kindss 1", SIGN);
        c.yardFault("@kindsa1", SIGN);
        c.yardFault("@kindsz1", SIGN);
        c.yardFault("@Kinds 1", SIGN);
        c.yardFault("@kINDS 1", SIGN);
        c.yardFault("kinds@S 1", SIGN);
        c.yardFault("kinds@{1", SIGN);
        c.yardFault("kinds@`1", SIGN);
        c.yardFault("@1", SIGN);
        c.yardFault("@take 1", SIGN);
        c.yardFault("kinds 1;@ships 1", SIGN);
        c.yardFault("kinds 1;@shi", SIGN);
        c.yardFault("kinds 1;@planks 0 1 0", SIGN);
        c.yardFault("kinds 1;@voyages 0 0 1 0", SIGN);
        c.yardFault("kinds 1;@hand 1", SIGN);
        c.yardFault("kinds 1;@handss 1", SIGN);
    }

    private static void aByteThatCanNotStandThere(Checks c) {
        for (int sign = 0; sign < 256; sign++) {
            boolean digit = sign >= '0' && sign <= '9';
            String s = String.valueOf((char) sign);
            if (sign != ' ' && sign != '@') {
                c.yardFault("@" + s, SIGN);
                c.yardFault("kinds 1;@" + s, SIGN);
            }
            if (sign != ' ' && sign != '@' && !digit) {
                c.yardFault("kinds @" + s, SIGN);
                c.yardFault("kinds 1;ship @" + s + "1", SIGN);
            }
            if (sign != ' ' && sign != '@' && !digit && sign != ';') {
                c.yardFault("kinds 1@" + s, SIGN);
                c.yardFault("kinds 1 @" + s + "ship 1", SIGN);
            }
        }
    }

    private static void theEndIsBehindTheLastByte(Checks c) {
        c.yardFault("@", SIGN);
        c.yardFault("   @", SIGN);
        c.yardFault("kinds@", SIGN);
        c.yardFault("kinds  @", SIGN);
        c.yardFault(Checks.times(" ", 400) + "@", SIGN);
        c.yardFault("kinds" + Checks.times(" ", 395) + "@", SIGN);
        c.yardFault("kinds 1" + Checks.times(" ", 392) + ";@", SIGN);
        c.yardFault(Checks.times(" ", 395) + "kinds@", SIGN);
        c.yardFault(Checks.times(" ", 396) + "@kind", SIGN);
    }

    private static void fourHundredBytes(Checks c) {
        String full = "kinds 1;ship 1" + Checks.times(";plank 0 99 0", 24);
        c.yardTaken(full + Checks.times(" ", 400 - full.length()), 1);
        c.yardFault("kinds 1" + Checks.times(" ", 392) + "@5", SIGN);
        c.yardFault("kinds" + Checks.times(" ", 394) + "@5", NUMBER);
        c.yardFault("kinds 1;ship 0;hands 1" + Checks.times(" ", 372) + ";@hands", CLAUSE);
        c.yardTaken("kinds 1" + Checks.times(" ", 387) + ";ship0", 1);
    }

    // ---- of several faults

    private static void theFirstFaultAlongTheText(Checks c) {
        c.yardFault("kinds @5;x", NUMBER);
        c.yardFault("kinds 1@x;kinds 5", SIGN);
        c.yardFault("kinds 1;@kinds 5;x", CLAUSE);
        c.yardFault("kinds 1;ship @6;kinds 1", NUMBER);
        c.yardFault("kinds 1;ship 1;plank @1 0 9", NUMBER);
        c.yardFault("kinds 1;ship 1;plank 0 @0 9", NUMBER);
        c.yardFault("kinds 1;ship 1;voyage @1 99 98 1000", NUMBER);
        c.yardFault("kinds 1;ship 1;voyage 0 @99 98 1000", NUMBER);
        c.yardFault("kinds 1;ship 1;voyage 0 9 @9 1000", NUMBER);
        c.yardFault("kinds 1;ship 1;voyage 0 @000001 1 x", NUMBER);
        c.yardFault("@x;kinds 000001", SIGN);
        c.yardFault("@ship 9;x", CLAUSE);
        c.yardFault("kinds @000001", NUMBER);
        c.yardFault("kinds 2;ship 1@;ship 6 6", SIGN);
    }

    private static void ofOnePlaceTheLeast(Checks c) {
        c.yardFault("@kin 1", SIGN);
        c.yardFault("kinds 1 @1000000", SIGN);
        c.yardFault("kinds 1" + Checks.times(";ship 1", 6) + ";@ships 1", SIGN);
        c.yardFault("kinds 1;hands 1;@hand 1", SIGN);
        c.yardFault("kinds 1;ship 1" + Checks.times(";plank0 1 0", 24) + ";@planks", SIGN);
        c.yardFault("kinds 1;ship 1 @99", SIGN);
    }

    private static void nothingIsLeftOfYardsBefore(Checks c) {
        String small = "kinds 1;ship 0;plank 0 9 0;voyage 0 0 1 5";
        int[] first = Seen.of(Checks.withYard(small));
        NineTimbers x = Checks.withYard(small);
        for (int i = 0; i < 3; i++) {
            Checks.move(x, 0, 0, 0, -1);
            x.days(-1, 7);
            c.due("again", Checks.yard(x, small), 1);
            c.unchanged("yard " + i, x, first);
        }
    }

    private static void nothingIsLeftOfGreaterYardsBefore(Checks c) {
        String small = "kinds 1;ship 0;plank 0 9 0;voyage 0 0 1 5";
        int[] first = Seen.of(Checks.withYard(small));
        NineTimbers x = Checks.withYard(Checks.FLEET);
        c.due("first", Checks.yard(x, small), 1);
        c.due("second", Checks.yard(x, small), 1);
        c.unchanged("behind a greater one", x, first);
        c.due("a fault", Checks.yard(x, "kinds 4;ship 1 1 1 1;ship 1 1 1 1;plank 0 5 0;voyage 0 0 1 5;hands 3;x"),
            Checks.fault(69, SIGN));
        c.due("third", Checks.yard(x, small), 1);
        c.unchanged("behind a fault", x, first);
    }

    private static void nothingIsLeftOfDaysAhead(Checks c) {
        String text = "kinds 1;ship 1;ship 1;plank 0 1 0;plank 0 9 0;voyage 0 0 4 5;voyage 1 0 1 5";
        NineTimbers x = Checks.withRules(text, "take rot");
        int[] first = Seen.of(x);
        c.due("one is lost", x.ahead(0, 50, 1), 1);
        c.due("one is paid", x.ahead(0, 50, 0), 5);
        Checks.yard(x, text);
        c.unchanged("behind days ahead", x, first);
        x.years(0, 3, 1, 50, 0);
        Checks.yard(x, text);
        c.unchanged("behind years", x, first);
    }

    private static void handsOfAYardBeforeAreNotUsed(Checks c) {
        String small = "kinds 1;ship 0;plank 0 9 0;hands 1";
        NineTimbers x = Checks.withYard(small);
        for (int i = 0; i < 4; i++) {
            c.due("a hand", x.count(6), 1);
            c.due("move", x.move(0, 0), true);
            c.due("no hand", x.count(6), 0);
            c.due("again", Checks.yard(x, small), 1);
        }
    }
}
