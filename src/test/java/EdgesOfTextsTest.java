/** Promises 21 to 25 at their edges, a case for each. */
public final class EdgesOfTextsTest {
    private static final int NONE = PierRings.NONE;
    private static final int BAD = PierRings.BAD;
    private static final int FULL = PierRings.FULL;
    private static final int REFUSED = PierRings.REFUSED;
    private static final int NOTHING = PierRings.NOTHING;

    private static final int MOST = 60;
    private static final String[] WORDS = {"pier ", "close ", "open ", "weigh ", "barge ", "gone ", "load ", "berth "};
    /** 60 signs, the last one is the second digit of the tons. */
    private static final String FULL_TEXT = "pier 1;barge 1000 10;barge 1001 10;barge 1002 10;barge 10 10";

    public static void main(String[] args) {
        Cases.run(EdgesOfTextsTest.class, 21, 25, args);
    }

    private static void fullText(PierRings x) {
        Starts.some(x);
        while (x.account(13) < MOST) {
            x.append(';');
        }
    }

    // ---- promise 21: append

    private static void p21_31IsOneBelowTheFirstCode_bad(Due due) {
        Twins.unchanged(due, "append(31)", Starts::none, x -> x.append(31), BAD);
        Twins.unchanged(due, "append(31)", Starts::some, x -> x.append(31), BAD);
    }

    private static void p21_32IsTheFirstCode(Due due) {
        PierRings x = new PierRings();
        due.is("append(32)", x.append(32), 1);
        due.is("account(13)", x.account(13), 1);
    }

    private static void p21_126IsTheLastCode(Due due) {
        PierRings x = new PierRings();
        due.is("append(126)", x.append(126), 1);
        due.is("account(13)", x.account(13), 1);
    }

    private static void p21_127IsOneAboveTheLastCode_bad(Due due) {
        Twins.unchanged(due, "append(127)", Starts::none, x -> x.append(127), BAD);
        Twins.unchanged(due, "append(127)", Starts::some, x -> x.append(127), BAD);
    }

    private static void p21_codeFarOutOfRange_bad(Due due) {
        PierRings x = new PierRings();
        for (int far : Starts.FAR) {
            due.is("append(" + far + ")", x.append(far), BAD);
        }
        due.is("a char more than 65536", x.append(65536 + 'p'), BAD);
        due.is("less than 0", x.append(-65536 + 'p'), BAD);
        due.is("0", x.append(0), BAD);
        due.is("255", x.append(255), BAD);
        due.is("account(13)", x.account(13), 0);
    }

    private static void p21_theFirstCharacter_1(Due due) {
        due.is("append('p')", new PierRings().append('p'), 1);
    }

    private static void p21_the60thCharacter_60(Due due) {
        PierRings x = new PierRings();
        for (int length = 1; length <= MOST; length++) {
            due.is("append " + length, x.append(FULL_TEXT.charAt(length - 1)), length);
        }
        due.is("account(13)", x.account(13), MOST);
        due.is("all of it is read", x.run(), 5);
        due.is("the last sign too", x.bargeOf(3, 1), 10);
    }

    private static void p21_the61stCharacter_full(Due due) {
        Twins.unchanged(due, "append('1')", EdgesOfTextsTest::fullText, x -> x.append('1'), FULL);
        PierRings x = new PierRings();
        Due.write(x, FULL_TEXT);
        due.is("append('0')", x.append('0'), FULL);
        due.is("account(13)", x.account(13), MOST);
        due.is("the text is as it was", x.run(), 5);
    }

    private static void p21_badIsListedAheadOfFull(Due due) {
        Twins.unchanged(due, "append(31)", EdgesOfTextsTest::fullText, x -> x.append(31), BAD);
        Twins.unchanged(due, "append(127)", EdgesOfTextsTest::fullText, x -> x.append(127), BAD);
    }

    private static void p21_itIsNoChange(Due due) {
        PierRings x = new PierRings();
        x.append('p');
        due.is("account(14)", x.account(14), 0);
        due.is("undo()", x.undo(), NOTHING);
    }

    // ---- promise 22: run

    private static void fault(Due due, String text, int position) {
        PierRings x = new PierRings();
        Due.write(x, text);
        due.is("the length of '" + text + "'", x.account(13), text.length());
        due.is("run() of '" + text + "'", x.run(), -1000 - position);
        due.is("the text is empty then", x.account(13), 0);
        due.is("no change", x.account(14), 0);
        due.is("no reason", x.reason(false), NOTHING);
    }

    private static void p22_theTextIsEmpty_fault0(Due due) {
        Twins.unchanged(due, "run()", Starts::none, PierRings::run, -1000);
        Twins.unchanged(due, "run()", Starts::twentyFourBarges, PierRings::run, -1000);
    }

    private static void p22_eachWordEndsTooEarly_faultAtItsLength(Due due) {
        for (String word : WORDS) {
            for (int length = 1; length <= word.length(); length++) {
                fault(due, word.substring(0, length), length);
                fault(due, "pier 1;" + word.substring(0, length), 7 + length);
            }
        }
    }

    private static void p22_eachLetterOfEachWordIsAnother_faultThere(Due due) {
        for (String word : WORDS) {
            for (int index = 0; index < word.length(); index++) {
                fault(due, word.substring(0, index) + "~" + word.substring(index + 1) + "1 1", index);
                fault(due, "gone 1;" + word.substring(0, index) + "~", 7 + index);
            }
        }
    }

    private static void p22_bIsTheBeginningOfTwoWords(Due due) {
        fault(due, "b", 1);
        fault(due, "bo", 1);
        fault(due, "ba", 2);
        fault(due, "be", 2);
        fault(due, "barth 1", 3);
        fault(due, "berge 1 1", 3);
        fault(due, "bargh", 4);
        fault(due, "berte", 4);
    }

    private static void p22_capitalLettersAndLeadingBlanks_fault0(Due due) {
        fault(due, "Pier 1", 0);
        fault(due, "PIER 1", 0);
        fault(due, " pier 1", 0);
        fault(due, ";pier 1", 0);
        fault(due, "1", 0);
    }

    private static void p22_aBerthsOrPiersDigitTooMany_faultThere(Due due) {
        fault(due, "pier 10", 6);
        fault(due, "pier 01", 6);
        fault(due, "close 00", 7);
        fault(due, "open 00", 6);
        fault(due, "weigh 00 1", 7);
        fault(due, "weigh 0 10", 9);
    }

    private static void p22_aDigitTooManyOfTheRest_faultThere(Due due) {
        fault(due, "barge 10000 1", 10);
        fault(due, "barge 00001 1", 10);
        fault(due, "barge 1 001", 10);
        fault(due, "gone 000", 7);
        fault(due, "load 000 1", 7);
        fault(due, "load 0 001", 9);
        fault(due, "berth 0060", 9);
    }

    private static void p22_noDigit_faultThere(Due due) {
        fault(due, "pier ;", 5);
        fault(due, "pier  1", 5);
        fault(due, "pier -1", 5);
        fault(due, "close x", 6);
        fault(due, "weigh 1 x", 8);
        fault(due, "barge  1", 6);
        fault(due, "barge 1  1", 8);
        fault(due, "load 1 ;", 7);
        fault(due, "berth +9", 6);
    }

    private static void p22_theSignsBesideTheDigits_faultThere(Due due) {
        fault(due, "pier /", 5);
        fault(due, "pier :", 5);
        fault(due, "barge 1/ 1", 7);
        fault(due, "barge 1: 1", 7);
        fault(due, "berth 1/", 7);
        fault(due, "berth 1:", 7);
    }

    private static void p22_0And9AreDigits(Due due) {
        PierRings x = new PierRings();
        due.is("names", Due.run(x, "barge 0909 90;barge 9090 09"), 2);
        due.is("909", x.bargeOf(0, 0), 909);
        due.is("90", x.bargeOf(0, 1), 90);
        due.is("9090", x.bargeOf(1, 0), 9090);
        due.is("9", x.bargeOf(1, 1), 9);
    }

    private static void p22_theSecondNumberIsMissing_fault(Due due) {
        fault(due, "weigh 1", 7);
        fault(due, "weigh 1;", 7);
        fault(due, "weigh 1 ", 8);
        fault(due, "barge 1", 7);
        fault(due, "barge 1;pier 1", 7);
        fault(due, "barge 9999", 10);
        fault(due, "barge 9999 ", 11);
        fault(due, "load 1", 6);
        fault(due, "load 12", 7);
        fault(due, "load 12;", 7);
        fault(due, "load 12 ", 8);
    }

    private static void p22_aNumberTooMany_faultAtTheBlank(Due due) {
        fault(due, "pier 1 1", 6);
        fault(due, "close 1 1", 7);
        fault(due, "open 1 1", 6);
        fault(due, "weigh 1 1 1", 9);
        fault(due, "barge 1 1 1", 9);
        fault(due, "gone 1 1", 6);
        fault(due, "gone 11 1", 7);
        fault(due, "load 1 1 1", 8);
        fault(due, "berth 1 1", 7);
        fault(due, "berth 100 1", 9);
    }

    private static void p22_theTextEndsBehindASemicolon_faultAtItsLength(Due due) {
        fault(due, "pier 1;", 7);
        fault(due, "berth 100;", 10);
        fault(due, "pier 1;pier 2;", 14);
    }

    private static void p22_twoSemicolonsOrABlankBehindOne_faultThere(Due due) {
        fault(due, "pier 1;;pier 1", 7);
        fault(due, "pier 1; pier 1", 7);
        fault(due, "pier 1 ;pier 1", 6);
        fault(due, "pier 1,pier 1", 6);
    }

    private static void p22_aFullTextEndsTooEarly_fault60(Due due) {
        fault(due, "pier 1;barge 1000 10;barge 1001 10;barge 1002 10;barge 1234 ", 60);
        fault(due, "pier 1;barge 1000 10;barge 1001 10;barge 1002 10;barge 10 1;", 60);
    }

    private static void p22_theLastOf60CharactersIsAnother_fault59(Due due) {
        fault(due, "pier 1;barge 1000 10;barge 1001 10;barge 1002 10;barge 1 100", 59);
        fault(due, "pier 1;barge 1000 10;barge 1001 10;barge 1002 10;barge 10 1 ", 59);
    }

    private static void p22_aShorterTextDoesNotGoOnWithTheOneBefore(Due due) {
        String longer = "weigh 1 2;barge 1 1;load 1 2";
        for (int length = 0; length < longer.length(); length++) {
            PierRings x = new PierRings();
            due.is("the longer one", Due.run(x, longer), REFUSED);
            boolean isWhole = length == 9 || length == 19;
            String text = longer.substring(0, length);
            due.is("run() of '" + text + "' behind it", Due.run(x, text), isWhole ? REFUSED : -1000 - length);
        }
    }

    private static void p22_oneOrder_1(Due due) {
        due.is("run()", Due.run(new PierRings(), "pier 1"), 1);
    }

    private static void p22_8OrdersAreTheMost(Due due) {
        PierRings x = new PierRings();
        due.is("run()", Due.run(x, "pier 1;pier 2;pier 3;pier 4;pier 5;pier 1;pier 2;pier 3"), 8);
        due.is("account(0)", x.account(0), 8);
        due.is("pierOf(0, 0)", x.pierOf(0, 0), 1);
        due.is("pierOf(7, 0)", x.pierOf(7, 0), 3);
    }

    private static void p22_theFewestAndTheMostDigitsOfEachOrder(Due due) {
        PierRings x = new PierRings();
        due.is("pier 5", Due.run(x, "pier 5"), 1);
        due.is("close 0", Due.run(x, "close 0"), 1);
        due.is("open 0", Due.run(x, "open 0"), 1);
        due.is("weigh 0 1", Due.run(x, "weigh 0 1"), 1);
        due.is("barge 0 1", Due.run(x, "barge 0 1"), 1);
        due.is("barge 9999 99", Due.run(x, "barge 9999 99"), 1);
        due.is("its name", x.bargeOf(1, 0), 9999);
        due.is("its tons", x.bargeOf(1, 1), 99);
        due.is("load 0 2", Due.run(x, "load 0 2"), 1);
        due.is("load 01 98", Due.run(x, "load 01 98"), 1);
        due.is("its tons", x.bargeOf(1, 1), 98);
        due.is("gone 1", Due.run(x, "gone 1"), 1);
        due.is("gone 00", Due.run(x, "gone 00"), 1);
        due.is("account(3)", x.account(3), 0);
        due.is("berth 10", Due.run(x, "berth 10"), 1);
        due.is("berth 200", Due.run(x, "berth 200"), 1);
        due.is("account(11)", x.account(11), 200);
        due.is("berth 010", Due.run(x, "berth 010"), 1);
        due.is("account(11)", x.account(11), 10);
    }

    private static void p22_theOrdersStandOneAfterTheOther(Due due) {
        PierRings x = new PierRings();
        due.is("run()", Due.run(x, "pier 1;pier 1;close 0;weigh 0 5;open 0;barge 1 1;gone 0"), 7);
        due.is("pierOf(0, 0)", x.pierOf(0, 0), 5);
        due.is("pierOf(0, 1)", x.pierOf(0, 1), 1);
        due.is("account(3)", x.account(3), 0);
    }

    private static void p22_theNumbersOfLaterBargesBecome1LessWithinARun(Due due) {
        PierRings x = new PierRings();
        due.is("run()", Due.run(x, "barge 1 1;barge 2 2;barge 3 3;gone 0;load 1 9;gone 0"), 6);
        due.is("account(3)", x.account(3), 1);
        due.is("the name", x.bargeOf(0, 0), 3);
        due.is("the tons", x.bargeOf(0, 1), 9);
    }

    private static void p22_aRunIsOneChangeAlsoIfNothingIsDifferent(Due due) {
        PierRings x = new PierRings();
        due.is("run()", Due.run(x, "barge 1 1;gone 0"), 2);
        due.is("account(14)", x.account(14), 1);
        due.is("undo()", x.undo(), 0);
        due.is("undo()", x.undo(), NOTHING);
    }

    private static void p22_aRunLeavesTheTextEmpty(Due due) {
        PierRings x = new PierRings();
        Due.run(x, "pier 1");
        due.is("account(13)", x.account(13), 0);
        due.is("run() again", x.run(), -1000);
        due.is("account(0)", x.account(0), 1);
        Due.run(x, "close 9");
        due.is("refused: account(13)", x.account(13), 0);
        due.is("run() again", x.run(), -1000);
        Due.run(x, "pier 1;");
        due.is("wrong: account(13)", x.account(13), 0);
        due.is("run() again", x.run(), -1000);
    }

    private static void some(PierRings x) {
        Starts.some(x);
        x.run();
        x.barge(Due.nameAt(1), 5);
    }

    private static void full(PierRings x) {
        Starts.full(x);
        x.run();
        x.open(0);
    }

    private static Twins.Start with(Twins.Start start, String text) {
        return x -> {
            start.lead(x);
            Due.write(x, text);
        };
    }

    private static void runRefused(Due due, Twins.Start start, String text, int order) {
        Twins.refusedAs(due, "run() of " + text, with(start, text), PierRings::run, start, 4, order);
    }

    private static void p22_aWrongTextLeavesAllElseAsItWas(Due due) {
        String[] texts = {"pier", "pier 1;pie", "close 0;close 1;x", "gone 0;gone 0;"};
        for (String text : texts) {
            int fault = text.endsWith("x") ? text.length() - 1 : text.length();
            Twins.becomes(due, "run() of " + text, with(EdgesOfTextsTest::some, text), PierRings::run, -1000 - fault,
                EdgesOfTextsTest::some);
        }
    }

    private static void p22_theFirstOrderFails_refusedForReason4With0(Due due) {
        runRefused(due, Starts::none, "close 0", 0);
        runRefused(due, EdgesOfTextsTest::some, "open 0;pier 1;close 0", 0);
        runRefused(due, EdgesOfTextsTest::full, "pier 1", 0);
    }

    private static void p22_theLastOrderFails_refusedForReason4AndNothingIsDone(Due due) {
        runRefused(due, Starts::none, "pier 1;pier 2;pier 3;pier 4;pier 5;pier 1;pier 2;pier 0", 7);
        runRefused(due, EdgesOfTextsTest::some, "close 0;open 2;weigh 2 5;gone 0;load 0 99;berth 10", 5);
        runRefused(due, EdgesOfTextsTest::full, "close 0;gone 23;barge 9999 9;berth 200;barge 1 1", 4);
    }

    private static void p22_theFirstOfTwoOrdersThatFailIsTold(Due due) {
        runRefused(due, EdgesOfTextsTest::some, "close 1;close 2;close 2;pier 9", 1);
    }

    private static void p22_ordersWithoutSuchAPierOrBarge_refusedForReason4(Due due) {
        for (String order : new String[] {"close 4", "open 9", "weigh 4 1", "gone 4", "gone 99", "load 4 1", "load 99 1"}) {
            runRefused(due, EdgesOfTextsTest::some, "barge 8 1;gone 0;berth 20;" + order, 3);
        }
    }

    private static void p22_ordersWithNumbersOutOfRange_refusedForReason4(Due due) {
        String[] orders = {"pier 0", "pier 6", "pier 9", "weigh 0 0", "weigh 0 6", "barge 9 0", "barge 9 00", "load 0 0",
            "load 0 00", "berth 9", "berth 201", "berth 0", "berth 999"};
        for (String order : orders) {
            runRefused(due, EdgesOfTextsTest::some, "close 0;" + order, 1);
        }
    }

    private static void p22_ordersThatWouldBeRefusedByThemselves_refusedForReason4(Due due) {
        String[] orders = {"close 2", "open 0", "weigh 1 1", "barge 0350 7", "load 0 20", "berth 10"};
        for (String order : orders) {
            runRefused(due, EdgesOfTextsTest::some, "pier 1;" + order, 1);
        }
        due.is("the name of the first barge", Due.nameAt(1), 350);
        runRefused(due, EdgesOfTextsTest::full, "gone 0;barge 1 1;barge 2 2", 2);
    }

    private static void p22_aFaultIsListedAheadOfRefused(Due due) {
        Twins.becomes(due, "run()", with(EdgesOfTextsTest::some, "close 9;pier 0;pier"), PierRings::run, -1019,
            EdgesOfTextsTest::some);
    }

    private static void p22_homesMovedByOrdersCountAndAreTakenBackWithThem(Due due) {
        PierRings x = Starts.withPiers(1, 1);
        Starts.bargeAt(x, 57, 5);
        due.is("run()", Due.run(x, "close 1;open 1;close 1"), 3);
        due.is("account(10)", x.account(10), 3);
        due.is("run()", Due.run(x, "open 1;open 1"), REFUSED);
        due.is("account(10)", x.account(10), 3);
        x.undo();
        due.is("account(10), undone", x.account(10), 0);
    }

    private static void p22_aRunThatIsDoneKeepsTheReason(Due due) {
        PierRings x = Starts.withPiers(1, 1);
        x.open(1);
        due.is("run()", Due.run(x, "close 1;open 1"), 2);
        due.is("reason(false)", x.reason(false), 3);
        due.is("reason(true)", x.reason(true), 1);
        due.is("run(), wrong", Due.run(x, "close 1;open"), -1012);
        due.is("reason(false)", x.reason(false), 3);
    }

    // ---- promises 23 and 24: tell, tellBarge

    private static void told(Due due, PierRings x, int length, String line) {
        due.is("the length of " + line, length, line.length());
        due.isText("the line", Due.line(x), line);
    }

    private static void p23_minus1IsOneBelowTheFirstPier_noneAndTheLineStays(Due due) {
        Twins.unchanged(due, "tell(-1)", Starts::some, x -> x.tell(-1), NONE);
    }

    private static void p23_oneAboveTheLastPier_noneAndTheLineStays(Due due) {
        Twins.unchanged(due, "tell(3)", Starts::some, x -> x.tell(3), NONE);
        Twins.unchanged(due, "tell(8)", Starts::full, x -> x.tell(8), NONE);
    }

    private static void p23_noPierIsThere_noneAndTheLineStaysEmpty(Due due) {
        Twins.unchanged(due, "tell(0)", Starts::none, x -> x.tell(0), NONE);
    }

    private static void p23_pierFarOutOfRange_none(Due due) {
        PierRings x = Starts.withPiers(1);
        x.tell(0);
        for (int far : Starts.FAR) {
            due.is("tell(" + far + ")", x.tell(far), NONE);
        }
        due.isText("the line stays", Due.line(x), "0*1:");
    }

    private static void p23_theLineAloneIsAnotherThen(Due due) {
        Twins.unchangedBut(due, "tell(1)", Starts::some, x -> x.tell(1), 7, Twins.Look.LINE);
    }

    private static void p23_theFirstAndTheLastPierOf8(Due due) {
        PierRings x = new PierRings();
        Starts.eightPiersOf(x, 5);
        x.weigh(0, 1);
        told(due, x, x.tell(0), "0*1:");
        told(due, x, x.tell(7), "7*5:");
    }

    private static void p23_noBargeLiesThere(Due due) {
        PierRings x = Starts.withPiers(1, 3);
        Starts.bargeAt(x, 0, 61);
        x.close(1);
        told(due, x, x.tell(0), "0*1:");
        told(due, x, x.tell(1), "1*3x:");
    }

    private static void p23_oneAndTwoBargesLieThere(Due due) {
        PierRings x = Starts.withPiers(1, 1);
        Starts.bargeAt(x, 137, 1);
        Starts.bargeAt(x, 0, 1);
        told(due, x, x.tell(0), "0*1:1");
        Starts.bargeAt(x, 1, 1);
        told(due, x, x.tell(0), "0*1:1,2");
    }

    private static void p23_aBargeFromAnotherHomeLiesThereToo(Due due) {
        PierRings x = Starts.withPiers(1, 1);
        Starts.bargeAt(x, 0, 60);
        Starts.bargeAt(x, 56, 10);
        told(due, x, x.tell(1), "1*1:1");
        told(due, x, x.tell(0), "0*1:0");
    }

    private static void p23_theLongestLine_all24BargesLieThere(Due due) {
        PierRings x = Starts.withPiers(5);
        for (int name = 0; name < 24; name++) {
            x.barge(name, 1);
        }
        told(due, x, x.tell(0), "0*5:0,1,2,3,4,5,6,7,8,9,10,11,12,13,14,15,16,17,18,19,20,21,22,23");
        x.close(0);
        told(due, x, x.tell(0), "0*5x:");
    }

    private static void p23_aShorterLineTakesThePlaceOfALongerOne(Due due) {
        PierRings x = Starts.withPiers(1, 1);
        Starts.bargeAt(x, 0, 5);
        x.tellBarge(0);
        told(due, x, x.tell(1), "1*1:");
    }

    private static void p24_minus1IsOneBelowTheFirstBarge_noneAndTheLineStays(Due due) {
        Twins.unchanged(due, "tellBarge(-1)", Starts::some, x -> x.tellBarge(-1), NONE);
    }

    private static void p24_oneAboveTheLastBarge_noneAndTheLineStays(Due due) {
        Twins.unchanged(due, "tellBarge(4)", Starts::some, x -> x.tellBarge(4), NONE);
        Twins.unchanged(due, "tellBarge(24)", Starts::full, x -> x.tellBarge(24), NONE);
    }

    private static void p24_noBargeIsThere_noneAndTheLineStaysEmpty(Due due) {
        Twins.unchanged(due, "tellBarge(0)", Starts::none, x -> x.tellBarge(0), NONE);
    }

    private static void p24_bargeFarOutOfRange_none(Due due) {
        PierRings x = new PierRings();
        x.barge(0, 1);
        x.tellBarge(0);
        for (int far : Starts.FAR) {
            due.is("tellBarge(" + far + ")", x.tellBarge(far), NONE);
        }
        due.isText("the line stays", Due.line(x), "0=0@11+1>-");
    }

    private static void p24_theLineAloneIsAnotherThen(Due due) {
        Twins.unchangedBut(due, "tellBarge(1)", Starts::some, x -> x.tellBarge(1), "1=238@57+2>1".length(), Twins.Look.LINE);
    }

    private static void p24_theFirstBargeAndTheShortestLine(Due due) {
        PierRings x = new PierRings();
        x.barge(97, 1);
        told(due, x, x.tellBarge(0), "0=97@0+1>-");
        x.pier(1);
        told(due, x, x.tellBarge(0), "0=97@0+1>0");
        x.leave(0);
        x.barge(0, 9);
        told(due, x, x.tellBarge(0), "0=0@11+9>0");
    }

    private static void p24_the24thBargeAndTheLongestLine(Due due) {
        PierRings x = new PierRings();
        Starts.eightPiersOf(x, 5);
        for (int name = 0; name < 23; name++) {
            x.barge(name, 1);
        }
        x.barge(9999, 99);
        told(due, x, x.tellBarge(23), "23=9999@254+99>6");
    }

    private static void p24_numbersOfOneToFourDigits(Due due) {
        PierRings x = new PierRings();
        int[] names = {9, 10, 99, 100, 999, 1000};
        int[] tons = {9, 10, 11, 90, 98, 99};
        String[] lines = {"0=9@344+9>-", "1=10@21+10>-", "2=99@74+11>-", "3=100@111+90>-", "4=999@254+98>-",
            "5=1000@291+99>-"};
        for (int barge = 0; barge < names.length; barge++) {
            x.barge(names[barge], tons[barge]);
            told(due, x, x.tellBarge(barge), lines[barge]);
        }
        for (int barge = 6; barge <= 10; barge++) {
            x.barge(2000 + barge, 1);
        }
        told(due, x, x.tellBarge(9), "9=2009@184+1>-");
        told(due, x, x.tellBarge(10), "10=2010@221+1>-");
    }

    private static void p24_thePoint359AndThePoint0(Due due) {
        PierRings x = new PierRings();
        x.barge(204, 1);
        x.barge(97, 1);
        told(due, x, x.tellBarge(0), "0=204@359+1>-");
        told(due, x, x.tellBarge(1), "1=97@0+1>-");
    }

    private static void p24_itLiesAtTheLastPierOf8OrNowhere(Due due) {
        PierRings x = new PierRings();
        Starts.eightPiersOf(x, 1);
        Starts.bargeAt(x, 295, 60);
        told(due, x, x.tellBarge(0), "0=" + Due.nameAt(295) + "@295+60>7");
        x.load(0, 61);
        told(due, x, x.tellBarge(0), "0=" + Due.nameAt(295) + "@295+61>-");
    }

    // ---- promise 25: character

    private static void p25_theLineIsEmptyAtFirst_none(Due due) {
        PierRings x = new PierRings();
        due.is("character(0)", x.character(0), NONE);
        due.is("character(-1)", x.character(-1), NONE);
        due.is("character(1)", x.character(1), NONE);
    }

    private static void p25_minus1IsOneBelowTheFirstIndex_none(Due due) {
        Twins.unchanged(due, "character(-1)", Starts::some, x -> x.character(-1), NONE);
    }

    private static void p25_index0IsTheFirst(Due due) {
        Twins.unchanged(due, "character(0)", Starts::some, x -> x.character(0), '0');
    }

    private static void p25_theLastCharacterAndOneBehindIt(Due due) {
        PierRings x = Starts.withPiers(5);
        int length = x.tell(0);
        due.is("tell(0)", length, 4);
        due.is("character(3)", x.character(3), ':');
        due.is("character(4)", x.character(4), NONE);
    }

    private static void p25_theLastCharacterOfTheLongestLineAndOneBehindIt(Due due) {
        PierRings x = Starts.withPiers(5);
        for (int name = 0; name < 24; name++) {
            x.barge(name, 1);
        }
        due.is("tell(0)", x.tell(0), 65);
        due.is("character(64)", x.character(64), '3');
        due.is("character(65)", x.character(65), NONE);
        due.is("character(80)", x.character(80), NONE);
        x.tellBarge(0);
        due.is("a shorter line: character(64)", x.character(64), NONE);
    }

    private static void p25_indexFarOutOfRange_none(Due due) {
        PierRings x = Starts.withPiers(5);
        x.tell(0);
        for (int far : Starts.FAR) {
            due.is("character(" + far + ")", x.character(far), NONE);
        }
    }

    private static void p25_theLineIsNeitherUndoneNorRestored(Due due) {
        PierRings x = new PierRings();
        x.save();
        x.pier(2);
        x.tell(0);
        x.undo();
        due.isText("undone", Due.line(x), "0*2:");
        x.restore();
        due.isText("restored", Due.line(x), "0*2:");
        x.run();
        due.isText("run", Due.line(x), "0*2:");
    }

    private static void p25_askingLeavesAllAsItWas(Due due) {
        Twins.asked(due, "character", x -> {
            for (int index = 0; index <= 20; index++) {
                x.character(index);
            }
        });
    }
}
